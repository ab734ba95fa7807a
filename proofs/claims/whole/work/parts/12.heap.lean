/-! Fields, arrays, new cells. -/
theorem tw_e_obj {ft : Nat → Nat → Nat} {cA : Nat → ClassId} {b q ci n : Nat} {rs : List (Option Nat)} {f : tw_S} (h : ci < 100) : tw_e ft cA b q (ci, n, rs) f = .inr (ci, tw_fs ft b q (ci, n, rs) f) := if_pos h
theorem tw_e_int {ft : Nat → Nat → Nat} {cA : Nat → ClassId} {b q n : Nat} {rs : List (Option Nat)} {f : tw_S} : tw_e ft cA b q (100, n, rs) f = .inl (cA 100, n, .inl (f q)) := rfl
theorem tw_e_boo {ft : Nat → Nat → Nat} {cA : Nat → ClassId} {b q n : Nat} {rs : List (Option Nat)} {f : tw_S} : tw_e ft cA b q (101, n, rs) f = .inl (cA 101, n, .inl (fun j => tw_nz (f q j))) := rfl
theorem tw_e_lon {ft : Nat → Nat → Nat} {cA : Nat → ClassId} {b q n : Nat} {rs : List (Option Nat)} {f : tw_S} : tw_e ft cA b q (102, n, rs) f = .inl (cA 102, n, .inr (.inl (fun j => (f q j).toInt64))) := rfl
theorem tw_up_off {f : tw_S} {q i j : Nat} {x : Int32} (h : j ≠ q) : tw_up f q i x j = f j := by
  funext w
  unfold tw_up
  rw [if_neg (fun g => h g.1)]
theorem tw_up_on {f : tw_S} {q i : Nat} {x : Int32} : tw_up f q i x q = upd (f q) i x := by
  funext w
  unfold tw_up upd
  by_cases h : w = i
  · rw [if_pos ⟨rfl, h⟩, if_pos h]
  · rw [if_neg (fun g => h g.2), if_neg h]
theorem tw_fs_set {ft : Nat → Nat → Nat} {b q ci n i : Nat} {rs : List (Option Nat)} {f : tw_S} {x : Int32} (hi : i < n) (h : ft ci i = 0 ∨ (ft ci i = 1 ∧ (x = 0 ∨ x = 1))) : (tw_fs ft b q (ci, n, rs) f).set i (.int x) = tw_fs ft b q (ci, n, rs) (tw_up f q i x) := by
  refine List.ext_getElem? (fun j => ?_)
  by_cases hj : j < n
  · rw [tw_fs_at (k := (ci, n, rs)) hj]
    by_cases hij : i = j
    · subst hij
      rw [List.getElem?_set_self (by rw [tw_fs_len]; exact hi)]
      have h1 : tw_up f q i x q i = x := by unfold tw_up; rw [if_pos ⟨rfl, rfl⟩]
      rw [h1]
      unfold tw_fv
      rcases h with h | ⟨h, hx⟩
      · have h' : ft (ci, n, rs).1 i = 0 := h
        rw [h']; rfl
      · have h' : ft (ci, n, rs).1 i = 1 := h
        rw [h', tw_nz_of hx]; rfl
    · rw [List.getElem?_set_ne hij, tw_fs_at (k := (ci, n, rs)) hj]
      have h1 : tw_up f q i x q j = f q j := by unfold tw_up; rw [if_neg (fun g => hij g.2.symm)]
      rw [h1]
  · rw [List.getElem?_eq_none (by rw [List.length_set, tw_fs_len]; exact Nat.not_lt.mp hj), List.getElem?_eq_none (by rw [tw_fs_len]; exact Nat.not_lt.mp hj)]
theorem tw_fs_setR {ft : Nat → Nat → Nat} {b q ci n i r : Nat} {rs : List (Option Nat)} {f : tw_S} (hi : i < n) (hr : i < rs.length) (h : ft ci i = 2) : (tw_fs ft b q (ci, n, rs) f).set i (.ref (b + r)) = tw_fs ft b q (ci, n, rs.set i (some r)) f := by
  refine List.ext_getElem? (fun j => ?_)
  by_cases hj : j < n
  · rw [tw_fs_at (k := (ci, n, rs.set i (some r))) hj]
    by_cases hij : i = j
    · subst hij
      rw [List.getElem?_set_self (by rw [tw_fs_len]; exact hi)]
      have h' : ft (ci, n, rs.set i (some r)).1 i = 2 := h
      have h2 : (rs.set i (some r)).getD i none = some r := by
        rw [List.getD_eq_getElem?_getD, List.getElem?_set_self hr]; rfl
      show _ = some (tw_fv _ b ((rs.set i (some r)).getD i none) _)
      rw [h2, h']
      rfl
    · rw [List.getElem?_set_ne hij, tw_fs_at (k := (ci, n, rs)) hj]
      have h2 : (rs.set i (some r)).getD j none = rs.getD j none := by
        rw [List.getD_eq_getElem?_getD, List.getElem?_set_ne hij, ← List.getD_eq_getElem?_getD]
      show _ = some (tw_fv _ b ((rs.set i (some r)).getD j none) _)
      rw [h2]
  · rw [List.getElem?_eq_none (by rw [List.length_set, tw_fs_len]; exact Nat.not_lt.mp hj), List.getElem?_eq_none (by rw [tw_fs_len]; exact Nat.not_lt.mp hj)]
/-- what the tables say of a class: its words, its fields' types and names, and what kind each is -/
def tw_C (ft : Nat → Nat → Nat) (Ts : List Cond) (ci : Nat) (r : vw_C) (ty : Nat → FieldType) : Prop :=
  (∀ w ∈ u_ws r.1 r.2.1 r.2.2, w ∈ Ts) ∧ (∀ k, k < r.2.2 → parseFieldDescriptor (r.2.1 k).2.2.1 = some (ty k)) ∧ (∀ a, a < r.2.2 → ∀ b, b < r.2.2 → a ≠ b → (r.2.1 a).2.1 ≠ (r.2.1 b).2.1) ∧ ci < 100 ∧
  ∀ k, k < r.2.2 → (ft ci k = 0 ∧ ty k = .int) ∨ (ft ci k = 1 ∧ ty k = .boolean) ∨ (ft ci k = 2 ∧ ((∃ C, ty k = .object C) ∨ ∃ t, ty k = .array t))
section HEAP
variable {p : Program} {l : Launch} {e : Env} {R : Room} {s : State} {m : MethodId} {args : Array Value} {below : List Frame} {meth : Method} {c : Code} {Q : State → Prop} {cl : List vw_C} {ft : Nat → Nat → Nat} {D : va_G} {cA : Nat → ClassId} {b z nL : Nat} {n0 s0 : Int} {A : Nat → Prop} {fl : Bool} {cc : ByteArray} {pc : Nat} {ls : List (Option tw_A)} {st : List tw_A} {L : tw_L} {f : tw_S} {tys : List (ClassId × FieldType)} {Ts : List Cond} {own : String} {ci i idx q n : Nat} {rs : List (Option Nat)} {r : vw_C} {ty : Nat → FieldType}
theorem tg_getf (hx : p.tables.exec = Jvm.exec) (hb : c.code = cc) (hts : ∀ w ∈ Ts, w.before args s = true) (hown : s.vm.findClass own = some m.cls) (hK : va_K D cl tys s) (hc : cl[ci]? = some r) (hC : tw_C ft Ts ci r ty) (hi : i < r.2.2) (hlink : (Cond.fieldLink own idx (r.2.1 i).1 (r.2.1 i).2.1 (r.2.1 i).2.2.1).before args s = true) (hd : decode cc pc = .ok (.getfield idx, 3)) (hq : L[q]? = some (ci, n, rs)) (hn : i < n)
    (kk : tw_G p l e R s m args below meth c Q cl ft D cA b z nL n0 s0 A fl (pc + 3) ls (tw_fa (ft ci i) (rs.getD i none) (f q i) :: st) L f) : tw_G p l e R s m args below meth c Q cl ft D cA b z nL n0 s0 A fl pc ls (tw_R q :: st) L f := by
  intro H locs la g1 g2 hW hS hh
  have he : (tw_ws ft cA b L f)[q]? = some (b + q, .inr (ci, tw_fs ft b q (ci, n, rs) f)) := by
    rw [tw_ws_at hq, tw_e_obj hC.2.2.2.1]
  have h := kk H locs la g1 g2 hW hS hh
  rw [List.map_cons, tw_fa_v] at h
  obtain ⟨C, T, N⟩ := r
  exact va_get hx hb hts hC.1 hown hK hW.1 q he hc i hi hlink (fun _ h9 => h9) (tw_fs_at (k := (ci, n, rs)) hn) hd h
theorem tg_putf (hA : ∀ x, b ≤ x → A x) (hx : p.tables.exec = Jvm.exec) (hb : c.code = cc) (hts : ∀ w ∈ Ts, w.before args s = true) (hown : s.vm.findClass own = some m.cls) (hK : va_K D cl tys s) (hc : cl[ci]? = some r) (hC : tw_C ft Ts ci r ty) (hi : i < r.2.2) (hlink : (Cond.fieldLink own idx (r.2.1 i).1 (r.2.1 i).2.1 (r.2.1 i).2.2.1).before args s = true) (hd : decode cc pc = .ok (.putfield idx, 3)) (hfin : (r.2.1 i).2.2.2 = false) {x : Int32} (hq : L[q]? = some (ci, n, rs)) (hn : i < n) (hv : ft ci i = 0 ∨ (ft ci i = 1 ∧ (x = 0 ∨ x = 1)))
    (kk : tw_G p l e R s m args below meth c Q cl ft D cA b z nL n0 s0 A fl (pc + 3) ls st L (tw_up f q i x)) : tw_G p l e R s m args below meth c Q cl ft D cA b z nL n0 s0 A fl pc ls (tw_I x :: tw_R q :: st) L f := by
  intro H locs la g1 g2 hW hS hh
  obtain ⟨C, T, N⟩ := r
  obtain ⟨hin, hty, hnm, h100, hft⟩ := hC
  have hap := va_apart (own := own) hts hin ty hty hnm hK hc
  have h0 := hW.at hq
  rw [tw_e_obj h100] at h0
  obtain ⟨r', h1, cell, q1, q2, q3, q4⟩ := h0
  have hr : r' = (C, T, N) := Option.some.inj (h1.symm.trans hc)
  subst hr
  obtain ⟨hSl, hfc, kC, hkC, hkind⟩ := hK.1 ci _ hc
  obtain ⟨cf, kf, fi, fd, hi2, hsl⟩ := hSl i hi
  have hlay := hts _ (hin _ (u_in_lay hi))
  unfold u_lay at hlay
  rw [if_neg (by rw [hfin]; decide)] at hlay
  have hst := (u_facts hfc hkC (u_lays hts hin hi) hi2).1
  have hnf : narrow (ty i) (.int x) = .int x ∧ fits (ty i) (.int x) = true := by
    rcases hft i hi with ⟨a1, a2⟩ | ⟨a1, a2⟩ | ⟨a1, a2⟩
    · rw [a2]; exact ⟨rfl, rfl⟩
    · rw [a2]
      rcases hv with v1 | ⟨-, v1 | v1⟩
      · rw [v1] at a1; cases a1
      · subst v1; exact ⟨rfl, rfl⟩
      · subst v1; exact ⟨rfl, rfl⟩
    · rcases hv with v1 | ⟨v1, -⟩
      · rw [v1] at a1; cases a1
      · rw [v1] at a1; cases a1
  have h6 := u_store hfc hkC hkind hlay hi2 (hty i hi) hnf.1 hnf.2
  refine W.putK hx hb (f := fd) (v := .int x) (a := b + q) (rest := st.map (tw_v b z)) ⟨hown, hlink, ⟨_, _, _, hi2⟩, hst⟩ (by rw [q2]; exact h6) q1 q3 (by rw [hsl]; exact k2_hasslot (q4 i hi)) rfl rfl hd fun H' e1 e2 e3 => ?_
  rw [hsl] at e1 ⊢
  refine kk H' _ la g1 g2 (hW.put (k := (ci, n, rs)) rfl (fun _ _ => rfl) (fun j hj => tw_up_off hj) hq ?_ e2 e3) (hS.put e2 e3 (hA _ (Nat.le_add_right b q))) hh
  rw [tw_e_obj h100, ← tw_fs_set hn hv]
  exact ⟨_, hc, t_OB.to (V := updV (vp_V (tw_fs ft b q (ci, n, rs) f)) i (.int x)) ⟨_, e1, q2, q3, t_set q4 hap hi _⟩ (fun j _ => vp_updV_set (by rw [tw_fs_len]; exact hn) _ j)⟩
theorem tg_putFi (hA : ∀ x, b ≤ x → A x) (hx : p.tables.exec = Jvm.exec) (hb : c.code = cc) (hts : ∀ w ∈ Ts, w.before args s = true) (hown : s.vm.findClass own = some m.cls) (hK : va_K D cl tys s) (hc : cl[ci]? = some r) (hC : tw_C ft Ts ci r ty) (hi : i < r.2.2) (hlink : (Cond.fieldLink own idx (r.2.1 i).1 (r.2.1 i).2.1 (r.2.1 i).2.2.1).before args s = true) (hd : decode cc pc = .ok (.putfield idx, 3)) (hfin : (r.2.1 i).2.2.2 = true) (hin2 : meth.name = "<init>") (hdecl : (r.2.1 i).1 = own) {x : Int32} (hq : L[q]? = some (ci, n, rs)) (hn : i < n) (hv : ft ci i = 0 ∨ (ft ci i = 1 ∧ (x = 0 ∨ x = 1)))
    (kk : tw_G p l e R s m args below meth c Q cl ft D cA b z nL n0 s0 A fl (pc + 3) ls st L (tw_up f q i x)) : tw_G p l e R s m args below meth c Q cl ft D cA b z nL n0 s0 A fl pc ls (tw_I x :: tw_R q :: st) L f := by
  intro H locs la g1 g2 hW hS hh
  obtain ⟨C, T, N⟩ := r
  obtain ⟨hin, hty, hnm, h100, hft⟩ := hC
  have hap := va_apart (own := own) hts hin ty hty hnm hK hc
  have h0 := hW.at hq
  rw [tw_e_obj h100] at h0
  obtain ⟨r', h1, cell, q1, q2, q3, q4⟩ := h0
  have hr : r' = (C, T, N) := Option.some.inj (h1.symm.trans hc)
  subst hr
  obtain ⟨hSl, hfc, kC, hkC, hkind⟩ := hK.1 ci _ hc
  obtain ⟨cf, kf, fi, fd, hi2, hsl⟩ := hSl i hi
  have hlay := hts _ (hin _ (u_in_lay hi))
  unfold u_lay at hlay
  rw [if_pos hfin] at hlay
  have hst := (u_facts hfc hkC (u_lays hts hin hi) hi2).1
  have hcf : m.cls = cf := by
    obtain ⟨_, _, c', _, _, _, -, -, hf', -, -, -, hown2, -⟩ := Cond.laysFinal_spec hlay
    have e1 : c' = cf := by have := hi2.symm.trans hf'; simp at this; exact this.1.symm
    have hdecl' : (T i).1 = own := hdecl
    rw [hdecl'] at hown2
    rw [← e1]; exact Option.some.inj (hown.symm.trans hown2)
  have hnf : narrow (ty i) (.int x) = .int x ∧ fits (ty i) (.int x) = true := by
    rcases hft i hi with ⟨a1, a2⟩ | ⟨a1, a2⟩ | ⟨a1, a2⟩
    · rw [a2]; exact ⟨rfl, rfl⟩
    · rw [a2]
      rcases hv with v1 | ⟨-, v1 | v1⟩
      · rw [v1] at a1; cases a1
      · subst v1; exact ⟨rfl, rfl⟩
      · subst v1; exact ⟨rfl, rfl⟩
    · rcases hv with v1 | ⟨v1, -⟩
      · rw [v1] at a1; cases a1
      · rw [v1] at a1; cases a1
  have h6 := u_fits hfc hkC hkind (Or.inr hlay) hi2 (hty i hi) hnf.1 hnf.2
  refine W.putFinK hx hb hown hlink hi2 hst hcf hin2 (v := .int x) (a := b + q) (rest := st.map (tw_v b z)) (by rw [q2]; exact h6) q1 q3 (by rw [hsl]; exact k2_hasslot (q4 i hi)) rfl rfl hd fun H' e1 e2 e3 => ?_
  rw [hsl] at e1 ⊢
  refine kk H' _ la g1 g2 (hW.put (k := (ci, n, rs)) rfl (fun _ _ => rfl) (fun j hj => tw_up_off hj) hq ?_ e2 e3) (hS.put e2 e3 (hA _ (Nat.le_add_right b q))) hh
  rw [tw_e_obj h100, ← tw_fs_set hn hv]
  exact ⟨_, hc, t_OB.to (V := updV (vp_V (tw_fs ft b q (ci, n, rs) f)) i (.int x)) ⟨_, e1, q2, q3, t_set q4 hap hi _⟩ (fun j _ => vp_updV_set (by rw [tw_fs_len]; exact hn) _ j)⟩
theorem tg_putFr (hA : ∀ x, b ≤ x → A x) (hx : p.tables.exec = Jvm.exec) (hb : c.code = cc) (hts : ∀ w ∈ Ts, w.before args s = true) (hown : s.vm.findClass own = some m.cls) (hK : va_K D cl tys s) (hc : cl[ci]? = some r) (hC : tw_C ft Ts ci r ty) (hi : i < r.2.2) (hlink : (Cond.fieldLink own idx (r.2.1 i).1 (r.2.1 i).2.1 (r.2.1 i).2.2.1).before args s = true) (hd : decode cc pc = .ok (.putfield idx, 3)) (hfin : (r.2.1 i).2.2.2 = true) (hin2 : meth.name = "<init>") (hdecl : (r.2.1 i).1 = own) {q2 : Nat} (hq : L[q]? = some (ci, n, rs)) (hn : i < n) (hrs : i < rs.length) (hv : ft ci i = 2)
    (kk : tw_G p l e R s m args below meth c Q cl ft D cA b z nL n0 s0 A fl (pc + 3) ls st (L.set q (ci, n, rs.set i (some q2))) f) : tw_G p l e R s m args below meth c Q cl ft D cA b z nL n0 s0 A fl pc ls (tw_R q2 :: tw_R q :: st) L f := by
  intro H locs la g1 g2 hW hS hh
  obtain ⟨C, T, N⟩ := r
  obtain ⟨hin, hty, hnm, h100, hft⟩ := hC
  have hap := va_apart (own := own) hts hin ty hty hnm hK hc
  have h0 := hW.at hq
  rw [tw_e_obj h100] at h0
  obtain ⟨r', h1, cell, q1, q2', q3, q4⟩ := h0
  have hr : r' = (C, T, N) := Option.some.inj (h1.symm.trans hc)
  subst hr
  obtain ⟨hSl, hfc, kC, hkC, hkind⟩ := hK.1 ci _ hc
  obtain ⟨cf, kf, fi, fd, hi2, hsl⟩ := hSl i hi
  have hlay := hts _ (hin _ (u_in_lay hi))
  unfold u_lay at hlay
  rw [if_pos hfin] at hlay
  have hst := (u_facts hfc hkC (u_lays hts hin hi) hi2).1
  have hcf : m.cls = cf := by
    obtain ⟨_, _, c', _, _, _, -, -, hf', -, -, -, hown2, -⟩ := Cond.laysFinal_spec hlay
    have e1 : c' = cf := by have := hi2.symm.trans hf'; simp at this; exact this.1.symm
    have hdecl' : (T i).1 = own := hdecl
    rw [hdecl'] at hown2
    rw [← e1]; exact Option.some.inj (hown.symm.trans hown2)
  have hnf : narrow (ty i) (.ref (b + q2)) = .ref (b + q2) ∧ fits (ty i) (.ref (b + q2)) = true := by
    rcases hft i hi with ⟨a1, a2⟩ | ⟨a1, a2⟩ | ⟨a1, ⟨C', a2⟩ | ⟨t, a2⟩⟩
    · rw [hv] at a1; cases a1
    · rw [hv] at a1; cases a1
    · rw [a2]; exact ⟨rfl, rfl⟩
    · rw [a2]; exact ⟨rfl, rfl⟩
  have h6 := u_fits hfc hkC hkind (Or.inr hlay) hi2 (hty i hi) hnf.1 hnf.2
  have hlt : q < L.length := (List.getElem?_eq_some_iff.mp hq).1
  refine W.putFinK hx hb hown hlink hi2 hst hcf hin2 (v := .ref (b + q2)) (a := b + q) (rest := st.map (tw_v b z)) (by rw [q2']; exact h6) q1 q3 (by rw [hsl]; exact k2_hasslot (q4 i hi)) rfl rfl hd fun H' e1 e2 e3 => ?_
  rw [hsl] at e1 ⊢
  have hsl2 : tw_sl (L.set q (ci, n, rs.set i (some q2))) = tw_sl L := by
    unfold tw_sl
    rw [List.map_set]
    congr 1
    refine List.ext_getElem? (fun j => ?_)
    by_cases hj : q = j
    · subst hj
      rw [List.getElem?_set_self (by rw [List.length_map]; exact hlt), List.getElem?_map, hq]; rfl
    · rw [List.getElem?_set_ne hj]
  have hlen : (L.set q (ci, n, rs.set i (some q2))).length = L.length := List.length_set
  have h9 := kk H' _ la (by rw [hlen]; exact g1) (by rw [hsl2]; exact g2) (hW.put (k := (ci, n, rs.set i (some q2))) hlen (fun j hj => List.getElem?_set_ne (fun g => hj g.symm)) (fun j hj => rfl) (List.getElem?_set_self hlt) ?_ e2 e3) (hS.put (k := D.2 ci i) e2 e3 (hA _ (Nat.le_add_right b q))) hh
  · rw [hlen, hsl2] at h9
    exact h9
  · rw [tw_e_obj h100, ← tw_fs_setR hn hrs hv]
    exact ⟨_, hc, t_OB.to (V := updV (vp_V (tw_fs ft b q (ci, n, rs) f)) i (.ref (b + q2))) ⟨_, e1, q2', q3, t_set q4 hap hi _⟩ (fun j _ => vp_updV_set (by rw [tw_fs_len]; exact hn) _ j)⟩
theorem tg_iaload (hx : p.tables.exec = Jvm.exec) (hb : c.code = cc) (hK : va_K D cl tys s) {t0 : Nat} (ht : tys[t0]? = some (cA 100, .int)) (hd : decode cc pc = .ok (.iaload, 1)) {x : Int32} (hq : L[q]? = some (100, n, rs)) (hin : vp_in x n)
    (kk : tw_G p l e R s m args below meth c Q cl ft D cA b z nL n0 s0 A fl (pc + 1) ls (tw_I (f q x.toNatClampNeg) :: st) L f) : tw_G p l e R s m args below meth c Q cl ft D cA b z nL n0 s0 A fl pc ls (tw_I x :: tw_R q :: st) L f :=
  fun H locs la g1 g2 hW hS hh => va_iald hx hb hK hW.1 q t0 (tw_ws_at hq) ht hin hd (kk H locs la g1 g2 hW hS hh)
theorem tg_baload (hx : p.tables.exec = Jvm.exec) (hb : c.code = cc) (hK : va_K D cl tys s) {t0 : Nat} (ht : tys[t0]? = some (cA 101, .boolean)) (hd : decode cc pc = .ok (.baload, 1)) {x : Int32} (hq : L[q]? = some (101, n, rs)) (hin : vp_in x n)
    (kk : tw_G p l e R s m args below meth c Q cl ft D cA b z nL n0 s0 A fl (pc + 1) ls (tw_I (tw_nz (f q x.toNatClampNeg)) :: st) L f) : tw_G p l e R s m args below meth c Q cl ft D cA b z nL n0 s0 A fl pc ls (tw_I x :: tw_R q :: st) L f :=
  fun H locs la g1 g2 hW hS hh => va_zald hx hb hK hW.1 q t0 (tw_ws_at hq) ht hin hd (kk H locs la g1 g2 hW hS hh)
theorem tg_laload (hx : p.tables.exec = Jvm.exec) (hb : c.code = cc) (hK : va_K D cl tys s) {t0 : Nat} (ht : tys[t0]? = some (cA 102, .long)) (hd : decode cc pc = .ok (.laload, 1)) {x : Int32} (hq : L[q]? = some (102, n, rs)) (hin : vp_in x n)
    (kk : tw_G p l e R s m args below meth c Q cl ft D cA b z nL n0 s0 A fl (pc + 1) ls (tw_J (f q x.toNatClampNeg) :: st) L f) : tw_G p l e R s m args below meth c Q cl ft D cA b z nL n0 s0 A fl pc ls (tw_I x :: tw_R q :: st) L f :=
  fun H locs la g1 g2 hW hS hh => va_lald hx hb hK hW.1 q t0 (tw_ws_at hq) ht hin hd (kk H locs la g1 g2 hW hS hh)
theorem tg_iastore (hA : ∀ x, b ≤ x → A x) (hx : p.tables.exec = Jvm.exec) (hb : c.code = cc) (hK : va_K D cl tys s) {t0 : Nat} (ht : tys[t0]? = some (cA 100, .int)) (hd : decode cc pc = .ok (.iastore, 1)) {x y : Int32} (hq : L[q]? = some (100, n, rs)) (hin : vp_in x n)
    (kk : tw_G p l e R s m args below meth c Q cl ft D cA b z nL n0 s0 A fl (pc + 1) ls st L (tw_up f q x.toNatClampNeg y)) : tw_G p l e R s m args below meth c Q cl ft D cA b z nL n0 s0 A fl pc ls (tw_I y :: tw_I x :: tw_R q :: st) L f := by
  intro H locs la g1 g2 hW hS hh
  have h0 : H[b + q]? = some (arrV (cA 100) n (fun j => .int (f q j))) := hW.at hq
  refine W.iast hx hb (a := b + q) (rest := st.map (tw_v b z)) h0 ((hK.2 t0 _ ht).1 n (fun j => .int (f q j))) (fun g => by cases g) (by rw [arrV_size]; exact hin) rfl rfl hd fun H1 e1 e2 e3 => ?_
  refine kk H1 _ la g1 g2 (hW.put (k := (100, n, rs)) rfl (fun _ _ => rfl) (fun j hj => tw_up_off hj) hq ?_ e2 e3) (hS.put e2 e3 (hA _ (Nat.le_add_right b q))) hh
  show H1[b + q]? = some (arrV (cA 100) n (fun j => .int (tw_up f q x.toNatClampNeg y q j)))
  rw [e1, arrV_store, tw_up_on]
  congr 2
  funext j
  by_cases hj : j = x.toNatClampNeg
  · subst hj
    simp [updV, upd]
  · simp [updV, upd, hj]
theorem tg_bastore (hA : ∀ x, b ≤ x → A x) (hx : p.tables.exec = Jvm.exec) (hb : c.code = cc) (hK : va_K D cl tys s) {t0 : Nat} (ht : tys[t0]? = some (cA 101, .boolean)) (hd : decode cc pc = .ok (.bastore, 1)) {x y : Int32} (hq : L[q]? = some (101, n, rs)) (hin : vp_in x n) (hy : y = 0 ∨ y = 1)
    (kk : tw_G p l e R s m args below meth c Q cl ft D cA b z nL n0 s0 A fl (pc + 1) ls st L (tw_up f q x.toNatClampNeg y)) : tw_G p l e R s m args below meth c Q cl ft D cA b z nL n0 s0 A fl pc ls (tw_I y :: tw_I x :: tw_R q :: st) L f := by
  intro H locs la g1 g2 hW hS hh
  have h0 : H[b + q]? = some (arrV (cA 101) n (fun j => .int (tw_nz (f q j)))) := hW.at hq
  refine W.zast hx hb (a := b + q) (rest := st.map (tw_v b z)) h0 ((hK.2 t0 _ ht).1 n (fun j => .int (tw_nz (f q j)))) (fun g => by cases g) (by rw [arrV_size]; exact hin) rfl rfl hd fun H1 e1 e2 e3 => ?_
  refine kk H1 _ la g1 g2 (hW.put (k := (101, n, rs)) rfl (fun _ _ => rfl) (fun j hj => tw_up_off hj) hq ?_ e2 e3) (hS.put e2 e3 (hA _ (Nat.le_add_right b q))) hh
  show H1[b + q]? = some (arrV (cA 101) n (fun j => .int (tw_nz (tw_up f q x.toNatClampNeg y q j))))
  have hn : narrow .boolean (.int y) = .int (tw_nz y) := by
    rcases hy with rfl | rfl
    · rfl
    · rfl
  rw [e1, arrV_store, hn, tw_up_on]
  congr 2
  funext j
  by_cases hj : j = x.toNatClampNeg
  · subst hj
    simp [updV, upd]
  · simp [updV, upd, hj]
/-- a fresh cell's ints are 0 -/
def tw_z (f : tw_S) (q : Nat) : tw_S := fun q' i' => if q' = q then 0 else f q' i'
theorem tw_z_off {f : tw_S} {q j : Nat} (h : j ≠ q) : tw_z f q j = f j := by
  funext w
  unfold tw_z
  rw [if_neg h]
theorem tw_z_on {f : tw_S} {q : Nat} : tw_z f q q = fun _ => 0 := by
  funext w
  unfold tw_z
  rw [if_pos rfl]
theorem tw_sl_push {L : tw_L} {k : tw_K} : tw_sl (L ++ [k]) = tw_sl L + k.2.1 := by
  unfold tw_sl
  rw [List.map_append, List.sum_append]
  simp
theorem tg_new (hx : p.tables.exec = Jvm.exec) (hb : c.code = cc) (hts : ∀ w ∈ Ts, w.before args s = true) (hown : s.vm.findClass own = some m.cls) (hK : va_K D cl tys s) (hc : cl[ci]? = some r) (hC : tw_C ft Ts ci r ty) (hlink : (Cond.classLink own idx r.1).before args s = true) (hinst : (Cond.instantiable r.1 r.2.2).before args s = true) (hini : (Cond.initialized r.1).before args s = true) (hd : decode cc pc = .ok (.new idx, 3)) (hb0 : b ≤ s.heap.size) (hcells : (((L.length + 1 : Nat) : Int) - n0).toNat ≤ R.cells) (hslots : (((tw_sl L + r.2.2 : Nat) : Int) - s0).toNat ≤ R.slots)
    (kk : tw_G p l e R s m args below meth c Q cl ft D cA b z nL n0 s0 A true (pc + 3) ls (tw_R L.length :: st) (L ++ [(ci, r.2.2, List.replicate r.2.2 none)]) (tw_z f L.length)) : tw_G p l e R s m args below meth c Q cl ft D cA b z nL n0 s0 A true pc ls st L f := by
  intro H locs la g1 g2 hW hS hh
  obtain ⟨C, T, N⟩ := r
  obtain ⟨hin, hty, hnm, h100, hft⟩ := hC
  have hKn := hK.1 ci _ hc
  have hsz := hW.2.2.1 rfl
  refine W.newcK hx hb hown hlink hinst hini (g := F0 m pc la (st.map (tw_v b z))) rfl hd (by show (((L.length : Nat) : Int) - n0).toNat + 1 ≤ _; omega) (by show (((tw_sl L : Nat) : Int) - s0).toNat + N ≤ _; have h9 : (((tw_sl L + N : Nat) : Int) - s0).toNat ≤ R.slots := hslots; omega) hKn.2.1 hsz fun H1 kC hkC e1 z1 o1 => ?_
  have hpush : tw_W cl ft D cA b true (L ++ [(ci, N, List.replicate N none)]) (tw_z f L.length) H1 := by
    refine hW.push (fun j hj => tw_z_off (by omega)) ?_ (by rw [z1, hsz]) (fun x hx => o1 x (by omega))
    rw [tw_e_obj h100]
    refine ⟨_, hc, (u_born ty hts hin hKn hkC e1 hty).to (fun j hj => ?_)⟩
    show defaultValue (ty j) = (tw_fs ft b L.length (ci, N, List.replicate N none) (tw_z f L.length)).getD j .null
    rw [List.getD_eq_getElem?_getD, tw_fs_at (k := (ci, N, List.replicate N none)) hj, tw_z_on]
    show defaultValue (ty j) = tw_fv (ft ci j) b ((List.replicate N none).getD j none) 0
    have h2 : (List.replicate N (none : Option Nat)).getD j none = none := by
      rw [List.getD_eq_getElem?_getD, List.getElem?_replicate]
      split
      · rfl
      · rfl
    rw [h2]
    rcases hft j hj with ⟨a1, a2⟩ | ⟨a1, a2⟩ | ⟨a1, ⟨C', a2⟩ | ⟨t, a2⟩⟩
    · rw [a1, a2]; rfl
    · rw [a1, a2]; rfl
    · rw [a1, a2]; rfl
    · rw [a1, a2]; rfl
  have h9 := kk H1 locs la (by rw [List.length_append]; omega) (by rw [tw_sl_push]; omega) hpush ⟨Nat.le_trans hS.1 (by omega), fun x h1 h2 => (o1 x (by have := hS.1; omega)).trans (hS.2.1 x h1 h2), hS.2.2⟩ hh
  rw [tw_sl_push, List.length_append] at h9
  have a1 : (((L.length + [(ci, N, List.replicate N (none : Option Nat))].length : Nat) : Int) - n0).toNat = (((L.length : Nat) : Int) - n0).toNat + 1 := by
    show (((L.length + 1 : Nat) : Int) - n0).toNat = _
    omega
  have a2 : (((tw_sl L + N : Nat) : Int) - s0).toNat = (((tw_sl L : Nat) : Int) - s0).toNat + N := by omega
  rw [a1] at h9
  show W p l e R s m args below meth c H1 locs ((((L.length : Nat) : Int) - n0).toNat + 1) ((((tw_sl L : Nat) : Int) - s0).toNat + N) Q (F0 m (pc + 3) la (.ref (b + L.length) :: st.map (tw_v b z)))
  rw [← a2]
  exact h9
def tw_ty (a : Nat) : FieldType := if a = 100 then .int else if a = 101 then .boolean else .long
def tw_at (a : Nat) : ArrayType := if a = 100 then .int else if a = 101 then .boolean else .long
theorem tg_newa (hx : p.tables.exec = Jvm.exec) (hb : c.code = cc) {a t0 : Nat} (ha : a = 100 ∨ a = 101 ∨ a = 102) (harr : (Cond.arrayClass (tw_ty a)).before args s = true) (hK : va_K D cl tys s) (ht : tys[t0]? = some (cA a, tw_ty a)) (hd : decode cc pc = .ok (.newarray (tw_at a), 2)) {x : Int32} (hxn : x = nI n) (hn : n < 4096) (hcells : (((L.length + 1 : Nat) : Int) - n0).toNat ≤ R.cells) (hslots : (((tw_sl L + n : Nat) : Int) - s0).toNat ≤ R.slots)
    (kk : tw_G p l e R s m args below meth c Q cl ft D cA b z nL n0 s0 A true (pc + 2) ls (tw_R L.length :: st) (L ++ [(a, n, [])]) (tw_z f L.length)) : tw_G p l e R s m args below meth c Q cl ft D cA b z nL n0 s0 A true pc ls (tw_I x :: st) L f := by
  intro H locs la g1 g2 hW hS hh
  subst hxn
  have hsz := hW.2.2.1 rfl
  have hty : newarray.typeOf (tw_at a) = tw_ty a := by rcases ha with rfl | rfl | rfl <;> rfl
  have hby : componentBytes (tw_ty a) ≤ 8 := by rcases ha with rfl | rfl | rfl <;> decide
  have hnm := (hK.2 t0 _ ht).2
  refine va_newaK hx hb (by rw [hty]; exact harr) (g := F0 m pc la ((tw_I (nI n) :: st).map (tw_v b z))) rfl hd (n := nI n) (rest := st.map (tw_v b z)) rfl (nI_pos (by omega)) (nI_clamp (by omega)) (by rw [hty]; exact Nat.le_trans (Nat.mul_le_mul (Nat.le_of_lt hn) hby) (by decide)) (by show (((L.length : Nat) : Int) - n0).toNat + 1 ≤ _; omega) (by show (((tw_sl L : Nat) : Int) - s0).toNat + n ≤ _; omega) hsz fun H1 cB e1 z1 o1 hAr hNm => ?_
  rw [hty] at e1 hNm hAr
  have hcB : cB = cA a := by
    have h2 : s.vm.findClass ("[" ++ (tw_ty a).toString) = some (cA a) := by
      rcases ha with rfl | rfl | rfl
      · exact hnm
      · exact hnm
      · exact hnm
    exact Option.some.inj (hNm.symm.trans h2)
  subst hcB
  have hpush : tw_W cl ft D cA b true (L ++ [(a, n, [])]) (tw_z f L.length) H1 := by
    refine hW.push (fun j hj => tw_z_off (by omega)) ?_ (by rw [z1, hsz]) (fun x hx => o1 x (by omega))
    rcases ha with rfl | rfl | rfl
    · show H1[b + L.length]? = some (arrV (cA 100) n (fun j => .int (tw_z f L.length L.length j)))
      rw [e1, tw_z_on]; rfl
    · show H1[b + L.length]? = some (arrV (cA 101) n (fun j => .int (tw_nz (tw_z f L.length L.length j))))
      rw [e1, tw_z_on]; rfl
    · show H1[b + L.length]? = some (arrV (cA 102) n (fun j => .long (tw_z f L.length L.length j).toInt64))
      rw [e1, tw_z_on]; rfl
  have h9 := kk H1 locs la (by rw [List.length_append]; omega) (by rw [tw_sl_push]; omega) hpush ⟨Nat.le_trans hS.1 (by omega), fun x h1 h2 => (o1 x (by have := hS.1; omega)).trans (hS.2.1 x h1 h2), hS.2.2⟩ hh
  rw [tw_sl_push, List.length_append] at h9
  have a1 : (((L.length + [(a, n, ([] : List (Option Nat)))].length : Nat) : Int) - n0).toNat = (((L.length : Nat) : Int) - n0).toNat + 1 := by
    show (((L.length + 1 : Nat) : Int) - n0).toNat = _
    omega
  have a2 : (((tw_sl L + n : Nat) : Int) - s0).toNat = (((tw_sl L : Nat) : Int) - s0).toNat + n := by omega
  rw [a1] at h9
  show W p l e R s m args below meth c H1 locs ((((L.length : Nat) : Int) - n0).toNat + 1) ((((tw_sl L : Nat) : Int) - s0).toNat + n) Q (F0 m (pc + 2) la (.ref (b + L.length) :: st.map (tw_v b z)))
  rw [← a2]
  exact h9
end HEAP
