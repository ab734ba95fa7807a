/-! TwinArray's public methods: the simple ones. -/
set_option maxRecDepth 20000 in
theorem s_num {fl : Bool} {d : Nat} {f : tw_S} {P : tw_S → Option tw_A → Prop} {c q : Nat} (hc : c < 2) (hqc : q = 17 + 22 * c) (hP : P f (some (tw_R q))) : tS fl (d + 1) 64 [tw_R 0, tw_I (nI c)] f P := by
  subst hqc
  exact s_numbered hc hP
set_option maxRecDepth 20000 in
theorem s_ctl1 {fl : Bool} {d : Nat} {f : tw_S} {P : tw_S → Option tw_A → Prop} {c : Nat} (hc : c < 2) (hP : P f (some (tw_I 1))) : tS fl (d + 1) 62 [tw_I (nI c)] f P := s_isController (fun _ => hP) (fun h => absurd (show nI c = 0 ∨ nI c = 1 by rcases (show c = 0 ∨ c = 1 by omega) with rfl | rfl <;> simp [tw_n0, tw_n1]) h)
set_option maxRecDepth 20000 in
theorem s_ctl0 {fl : Bool} {d : Nat} {f : tw_S} {P : tw_S → Option tw_A → Prop} {x : Int32} (hx : ¬ (x = 0 ∨ x = 1)) (hP : P f (some (tw_I 0))) : tS fl (d + 1) 62 [tw_I x] f P := s_isController (fun h => absurd h hx) (fun _ => hP)
set_option maxRecDepth 20000 in
theorem s_cut {fl : Bool} {d : Nat} {f : tw_S} {P : tw_S → Option tw_A → Prop} {x : Int32} (hx : x = 0 ∨ x = 1) (hP : P (tw_up f 0 5 x) none) : tS fl (d + 1) 86 [tw_R 0, tw_I x] f P := by
  refine tw_Sp_of rfl rfl (Nat.le_of_ble_eq_true rfl) (fun X h => ?_)
  refine zi_aload_n h rfl rfl ?_
  refine zi_iload_n h rfl rfl ?_
  refine zp_boo h rfl (by first | rfl | assumption) (by decide) rfl (by first | exact Or.inl rfl | exact Or.inr rfl | assumption) ?_
  refine zi_vret h rfl ?_
  exact hP
set_option maxRecDepth 20000 in
theorem s_lates {fl : Bool} {d : Nat} {f : tw_S} {P : tw_S → Option tw_A → Prop} (hP : P f (some (tw_I (f 12 4)))) : tS fl (d + 1) 101 [tw_R 0] f P := by
  refine tw_Sp_of rfl rfl (Nat.le_of_ble_eq_true rfl) (fun X h => ?_)
  refine zi_aload_n h rfl rfl ?_
  refine zg_ref h rfl (by first | rfl | assumption) (by decide) rfl rfl ?_
  refine zg_int h rfl (by first | rfl | assumption) (by decide) rfl ?_
  refine zi_iret h rfl ?_
  exact hP
set_option maxRecDepth 20000 in
theorem s_crash_x {fl : Bool} {d : Nat} {f : tw_S} {P : tw_S → Option tw_A → Prop} {x : Int32} (hx : ¬ (x = 0 ∨ x = 1)) (hP : P f (some (tw_I 0))) : tS fl (d + 5) 87 [tw_R 0, tw_I x] f P := by
  refine tw_Sp_of rfl rfl (Nat.le_of_ble_eq_true rfl) (fun X h => ?_)
  refine zi_iload_n h rfl rfl ?_
  refine zk_S h [_] rfl rfl rfl (Nat.le_of_ble_eq_true rfl) (s_ctl0 hx ?_)
  first | refine zb_ifeq h rfl (fun hc => ?_) (fun hc => ?_) | refine zc_ifeq h rfl (fun hc => ?_) (fun hc => ?_)
  · refine zn_iconst h 0 rfl rfl ?_
    refine zi_zret h rfl (by first | exact Or.inl rfl | exact Or.inr rfl | exact tw_nz_01 _ | assumption) ?_
    exact hP
  · exact absurd rfl hc
set_option maxRecDepth 20000 in
theorem s_crash_c {fl : Bool} {d : Nat} {f : tw_S} {P : tw_S → Option tw_A → Prop} {c q lm tm : Nat} (hc : c < 2) (hqc : q = 17 + 22 * c) (hl : f 12 4 = nI lm) (hl2 : lm ≤ 20) (ht : f 6 5 = nI tm) (ht2 : tm ≤ 200) (h1 : f q 6 = 0 → P f (some (tw_I 0))) (h2 : ¬ f q 6 = 0 → P (p_down f q) (some (tw_I 1))) : tS fl (d + 5) 87 [tw_R 0, tw_I (nI c)] f P := by
  have hcc := hc
  have hq : q = 17 ∨ q = 39 := by omega
  have lc := tx_ctl hq
  obtain ⟨a0, a1, a2, a3, a4⟩ := tx_ent (tx_c1 hq)
  obtain ⟨m0, m1, m2, m3, m4⟩ := tx_ent (tx_c6 hq)
  obtain ⟨i0, i1, i2, i3, i4, i5⟩ := tx_inb (tx_c11 hq)
  obtain ⟨d0, d1, d2, d3⟩ := tx_des (tx_c17 hq)
  have w0 := tx_dwr (tx_c21 hq)
  refine tw_Sp_of rfl rfl (Nat.le_of_ble_eq_true rfl) (fun X h => ?_)
  refine zi_iload_n h rfl rfl ?_
  refine zk_S h [_] rfl rfl rfl (Nat.le_of_ble_eq_true rfl) (s_ctl1 hcc ?_)
  first | refine zb_ifeq h rfl (fun hc => ?_) (fun hc => ?_) | refine zc_ifeq h rfl (fun hc => ?_) (fun hc => ?_)
  · exact absurd hc (by decide)
  · refine zi_aload_n h rfl rfl ?_
    refine zi_iload_n h rfl rfl ?_
    refine zk_V h [_] rfl (by first | rfl | assumption) rfl rfl (Nat.le_of_ble_eq_true rfl) (s_num hcc hqc ?_)
    refine zg_boo h rfl (by first | rfl | assumption) (by decide) rfl ?_
    first | refine zb_ifne h rfl (fun hc => ?_) (fun hc => ?_) | refine zc_ifne h rfl (fun hc => ?_) (fun hc => ?_)
    · refine zi_aload_n h rfl rfl ?_
      refine zi_aload_n h rfl rfl ?_
      refine zi_iload_n h rfl rfl ?_
      refine zk_V h [_] rfl (by first | rfl | assumption) rfl rfl (Nat.le_of_ble_eq_true rfl) (s_num hcc hqc ?_)
      refine zk_V h [_] rfl (by first | rfl | assumption) rfl rfl (Nat.le_of_ble_eq_true rfl) (s_goDown hq hl hl2 ht ht2 ?_)
      refine zn_iconst h 1 rfl rfl ?_
      refine zi_zret h rfl (by first | exact Or.inl rfl | exact Or.inr rfl | exact tw_nz_01 _ | assumption) ?_
      exact h2 hc
    · refine zn_iconst h 0 rfl rfl ?_
      refine zi_zret h rfl (by first | exact Or.inl rfl | exact Or.inr rfl | exact tw_nz_01 _ | assumption) ?_
      exact h1 hc
set_option maxRecDepth 20000 in
theorem s_restart_x {fl : Bool} {d : Nat} {f : tw_S} {P : tw_S → Option tw_A → Prop} {x : Int32} (hx : ¬ (x = 0 ∨ x = 1)) (hP : P f (some (tw_I 0))) : tS fl (d + 2) 88 [tw_R 0, tw_I x] f P := by
  refine tw_Sp_of rfl rfl (Nat.le_of_ble_eq_true rfl) (fun X h => ?_)
  refine zi_iload_n h rfl rfl ?_
  refine zk_S h [_] rfl rfl rfl (Nat.le_of_ble_eq_true rfl) (s_ctl0 hx ?_)
  first | refine zb_ifeq h rfl (fun hc => ?_) (fun hc => ?_) | refine zc_ifeq h rfl (fun hc => ?_) (fun hc => ?_)
  · refine zn_iconst h 0 rfl rfl ?_
    refine zi_zret h rfl (by first | exact Or.inl rfl | exact Or.inr rfl | exact tw_nz_01 _ | assumption) ?_
    exact hP
  · exact absurd rfl hc
set_option maxRecDepth 20000 in
theorem s_restart_c {fl : Bool} {d : Nat} {f : tw_S} {P : tw_S → Option tw_A → Prop} {c q : Nat} (hc : c < 2) (hqc : q = 17 + 22 * c) (h1 : ¬ f q 6 = 0 → P f (some (tw_I 0))) (h2 : f q 6 = 0 → P (tw_up (tw_up f q 6 1) (q + 11) 6 0) (some (tw_I 1))) : tS fl (d + 2) 88 [tw_R 0, tw_I (nI c)] f P := by
  have hcc := hc
  have hq : q = 17 ∨ q = 39 := by omega
  have lc := tx_ctl hq
  obtain ⟨a0, a1, a2, a3, a4⟩ := tx_ent (tx_c1 hq)
  obtain ⟨m0, m1, m2, m3, m4⟩ := tx_ent (tx_c6 hq)
  obtain ⟨i0, i1, i2, i3, i4, i5⟩ := tx_inb (tx_c11 hq)
  obtain ⟨d0, d1, d2, d3⟩ := tx_des (tx_c17 hq)
  have w0 := tx_dwr (tx_c21 hq)
  refine tw_Sp_of rfl rfl (Nat.le_of_ble_eq_true rfl) (fun X h => ?_)
  refine zi_iload_n h rfl rfl ?_
  refine zk_S h [_] rfl rfl rfl (Nat.le_of_ble_eq_true rfl) (s_ctl1 hcc ?_)
  first | refine zb_ifeq h rfl (fun hc => ?_) (fun hc => ?_) | refine zc_ifeq h rfl (fun hc => ?_) (fun hc => ?_)
  · exact absurd hc (by decide)
  · refine zi_aload_n h rfl rfl ?_
    refine zi_iload_n h rfl rfl ?_
    refine zk_V h [_] rfl (by first | rfl | assumption) rfl rfl (Nat.le_of_ble_eq_true rfl) (s_num hcc hqc ?_)
    refine zg_boo h rfl (by first | rfl | assumption) (by decide) rfl ?_
    first | refine zb_ifeq h rfl (fun hc => ?_) (fun hc => ?_) | refine zc_ifeq h rfl (fun hc => ?_) (fun hc => ?_)
    · refine zi_aload_n h rfl rfl ?_
      refine zi_iload_n h rfl rfl ?_
      refine zk_V h [_] rfl (by first | rfl | assumption) rfl rfl (Nat.le_of_ble_eq_true rfl) (s_num hcc hqc ?_)
      refine zi_astore_n h rfl (Nat.le_of_ble_eq_true rfl) ?_
      refine zi_aload_n h rfl rfl ?_
      refine zn_iconst h 1 rfl rfl ?_
      refine zp_boo h rfl (by first | rfl | assumption) (by decide) rfl (by first | exact Or.inl rfl | exact Or.inr rfl | assumption) ?_
      refine zi_aload_n h rfl rfl ?_
      refine zg_ref h rfl (by first | rfl | assumption) (by decide) rfl rfl ?_
      refine zk_V h [] rfl (by first | rfl | assumption) rfl rfl (Nat.le_of_ble_eq_true rfl) (s_empty (tx_c11 hq) ?_)
      refine zn_iconst h 1 rfl rfl ?_
      refine zi_zret h rfl (by first | exact Or.inl rfl | exact Or.inr rfl | exact tw_nz_01 _ | assumption) ?_
      exact h2 hc
    · refine zn_iconst h 0 rfl rfl ?_
      refine zi_zret h rfl (by first | exact Or.inl rfl | exact Or.inr rfl | exact tw_nz_01 _ | assumption) ?_
      exact h1 hc
set_option maxRecDepth 20000 in
theorem s_takeOver_x {fl : Bool} {d : Nat} {f : tw_S} {P : tw_S → Option tw_A → Prop} {x : Int32} (hx : ¬ (x = 0 ∨ x = 1)) (hP : P f (some (tw_I 0))) : tS fl (d + 3) 92 [tw_R 0, tw_I x] f P := by
  refine tw_Sp_of rfl rfl (Nat.le_of_ble_eq_true rfl) (fun X h => ?_)
  refine zi_iload_n h rfl rfl ?_
  refine zk_S h [_] rfl rfl rfl (Nat.le_of_ble_eq_true rfl) (s_ctl0 hx ?_)
  first | refine zb_ifne h rfl (fun hc => ?_) (fun hc => ?_) | refine zc_ifne h rfl (fun hc => ?_) (fun hc => ?_)
  · exact absurd rfl hc
  · refine zn_iconst h 0 rfl rfl ?_
    refine zi_zret h rfl (by first | exact Or.inl rfl | exact Or.inr rfl | exact tw_nz_01 _ | assumption) ?_
    exact hP
set_option maxRecDepth 20000 in
theorem s_takeOver_c {fl : Bool} {d : Nat} {f : tw_S} {P : tw_S → Option tw_A → Prop} {c q : Nat} (hc : c < 2) (hqc : q = 17 + 22 * c) (h1 : ¬ (¬ f q 6 = 0 ∧ f q 8 = 0) → P f (some (tw_I 0))) (h2 : (¬ f q 6 = 0 ∧ f q 8 = 0) → P (tw_up (tw_up (tw_up (tw_up (tw_up f q 7 0) q 10 ((if f q 10 < p_great (f 2) (f 3) 5 then p_great (f 2) (f 3) 5 else f q 10) + 1)) q 8 1) q 17 0) q 18 0) (some (tw_I 1))) : tS fl (d + 3) 92 [tw_R 0, tw_I (nI c)] f P := by
  have hcc := hc
  have hq : q = 17 ∨ q = 39 := by omega
  have lc := tx_ctl hq
  obtain ⟨a0, a1, a2, a3, a4⟩ := tx_ent (tx_c1 hq)
  obtain ⟨m0, m1, m2, m3, m4⟩ := tx_ent (tx_c6 hq)
  obtain ⟨i0, i1, i2, i3, i4, i5⟩ := tx_inb (tx_c11 hq)
  obtain ⟨d0, d1, d2, d3⟩ := tx_des (tx_c17 hq)
  have w0 := tx_dwr (tx_c21 hq)
  have e2 : tw_up f q 7 (nI 0) 2 = f 2 := by funext j; exact tw_off (by omega)
  have e3 : tw_up f q 7 (nI 0) 3 = f 3 := by funext j; exact tw_off (by omega)
  have e10 : tw_up f q 7 (nI 0) q 10 = f q 10 := tw_off (by omega)
  refine tw_Sp_of rfl rfl (Nat.le_of_ble_eq_true rfl) (fun X h => ?_)
  refine zi_iload_n h rfl rfl ?_
  refine zk_S h [_] rfl rfl rfl (Nat.le_of_ble_eq_true rfl) (s_ctl1 hcc ?_)
  first | refine zb_ifne h rfl (fun hc => ?_) (fun hc => ?_) | refine zc_ifne h rfl (fun hc => ?_) (fun hc => ?_)
  · refine zi_aload_n h rfl rfl ?_
    refine zi_iload_n h rfl rfl ?_
    refine zk_V h [_] rfl (by first | rfl | assumption) rfl rfl (Nat.le_of_ble_eq_true rfl) (s_num hcc hqc ?_)
    refine zi_astore_n h rfl (Nat.le_of_ble_eq_true rfl) ?_
    refine zi_aload_n h rfl rfl ?_
    refine zg_boo h rfl (by first | rfl | assumption) (by decide) rfl ?_
    first | refine zb_ifeq h rfl (fun hc => ?_) (fun hc => ?_) | refine zc_ifeq h rfl (fun hc => ?_) (fun hc => ?_)
    · refine zn_iconst h 0 rfl rfl ?_
      refine zi_zret h rfl (by first | exact Or.inl rfl | exact Or.inr rfl | exact tw_nz_01 _ | assumption) ?_
      exact h1 (fun u => u.1 hc)
    · have c6 := hc
      refine zi_aload_n h rfl rfl ?_
      refine zg_boo h rfl (by first | rfl | assumption) (by decide) rfl ?_
      first | refine zb_ifeq h rfl (fun hc => ?_) (fun hc => ?_) | refine zc_ifeq h rfl (fun hc => ?_) (fun hc => ?_)
      · have h2 := h2 ⟨c6, hc⟩
        refine zi_aload_n h rfl rfl ?_
        refine zn_iconst h 0 rfl rfl ?_
        refine zp_boo h rfl (by first | rfl | assumption) (by decide) rfl (by first | exact Or.inl rfl | exact Or.inr rfl | assumption) ?_
        refine zi_aload_n h rfl rfl ?_
        refine zi_aload_n h rfl rfl ?_
        refine zg_int h rfl (by first | rfl | assumption) (by decide) rfl ?_
        refine zi_aload_n h rfl rfl ?_
        refine zg_ref h rfl (by first | rfl | assumption) (by decide) rfl rfl ?_
        refine zk_V h [] rfl (by first | rfl | assumption) rfl rfl (Nat.le_of_ble_eq_true rfl) (s_greatestKey ?_)
        refine zi_max h rfl (Nat.le_of_ble_eq_true rfl) (Nat.le_refl _) (Nat.le_refl _) ?_
        refine zn_iconst h 1 rfl rfl ?_
        first | refine zn_iadd h rfl ?_ | refine zi_iadd h rfl ?_
        refine zp_int h rfl (by first | rfl | assumption) (by decide) rfl ?_
        refine zi_aload_n h rfl rfl ?_
        refine zn_iconst h 1 rfl rfl ?_
        refine zp_boo h rfl (by first | rfl | assumption) (by decide) rfl (by first | exact Or.inl rfl | exact Or.inr rfl | assumption) ?_
        refine zi_aload_n h rfl rfl ?_
        refine zn_iconst h 0 rfl rfl ?_
        refine zp_int h rfl (by first | rfl | assumption) (by decide) rfl ?_
        show X 36 _ _ _ _
        refine zi_aload_n h rfl rfl ?_
        refine zn_iconst h 0 rfl rfl ?_
        refine zp_int h rfl (by first | rfl | assumption) (by decide) rfl ?_
        refine zn_iconst h 1 rfl rfl ?_
        refine zi_zret h rfl (by first | exact Or.inl rfl | exact Or.inr rfl | exact tw_nz_01 _ | assumption) ?_
        rw [e2, e3, e10]
        exact h2
      · refine zn_iconst h 0 rfl rfl ?_
        refine zi_zret h rfl (by first | exact Or.inl rfl | exact Or.inr rfl | exact tw_nz_01 _ | assumption) ?_
        exact h1 (fun u => hc u.2)
  · exact absurd hc (by decide)
set_option maxRecDepth 20000 in
theorem s_flush_x {fl : Bool} {d : Nat} {f : tw_S} {P : tw_S → Option tw_A → Prop} {x : Int32} (hx : ¬ (x = 0 ∨ x = 1)) (hP : P f (some (tw_I 0))) : tS fl (d + 2) 95 [tw_R 0, tw_I x] f P := by
  refine tw_Sp_of rfl rfl (Nat.le_of_ble_eq_true rfl) (fun X h => ?_)
  refine zi_iload_n h rfl rfl ?_
  refine zk_S h [_] rfl rfl rfl (Nat.le_of_ble_eq_true rfl) (s_ctl0 hx ?_)
  first | refine zb_ifeq h rfl (fun hc => ?_) (fun hc => ?_) | refine zc_ifeq h rfl (fun hc => ?_) (fun hc => ?_)
  · refine zn_iconst h 0 rfl rfl ?_
    refine zi_zret h rfl (by first | exact Or.inl rfl | exact Or.inr rfl | exact tw_nz_01 _ | assumption) ?_
    exact hP
  · exact absurd rfl hc
set_option maxRecDepth 20000 in
theorem s_flush_c {fl : Bool} {d : Nat} {f : tw_S} {P : tw_S → Option tw_A → Prop} {c q : Nat} (hc : c < 2) (hqc : q = 17 + 22 * c) (h1 : f q 6 = 0 → P f (some (tw_I 0))) (h2 : ¬ f q 6 = 0 → P (tw_up f q 9 1) (some (tw_I 1))) : tS fl (d + 2) 95 [tw_R 0, tw_I (nI c)] f P := by
  have hcc := hc
  have hq : q = 17 ∨ q = 39 := by omega
  have lc := tx_ctl hq
  obtain ⟨a0, a1, a2, a3, a4⟩ := tx_ent (tx_c1 hq)
  obtain ⟨m0, m1, m2, m3, m4⟩ := tx_ent (tx_c6 hq)
  obtain ⟨i0, i1, i2, i3, i4, i5⟩ := tx_inb (tx_c11 hq)
  obtain ⟨d0, d1, d2, d3⟩ := tx_des (tx_c17 hq)
  have w0 := tx_dwr (tx_c21 hq)
  refine tw_Sp_of rfl rfl (Nat.le_of_ble_eq_true rfl) (fun X h => ?_)
  refine zi_iload_n h rfl rfl ?_
  refine zk_S h [_] rfl rfl rfl (Nat.le_of_ble_eq_true rfl) (s_ctl1 hcc ?_)
  first | refine zb_ifeq h rfl (fun hc => ?_) (fun hc => ?_) | refine zc_ifeq h rfl (fun hc => ?_) (fun hc => ?_)
  · exact absurd hc (by decide)
  · refine zi_aload_n h rfl rfl ?_
    refine zi_iload_n h rfl rfl ?_
    refine zk_V h [_] rfl (by first | rfl | assumption) rfl rfl (Nat.le_of_ble_eq_true rfl) (s_num hcc hqc ?_)
    refine zg_boo h rfl (by first | rfl | assumption) (by decide) rfl ?_
    first | refine zb_ifne h rfl (fun hc => ?_) (fun hc => ?_) | refine zc_ifne h rfl (fun hc => ?_) (fun hc => ?_)
    · refine zi_aload_n h rfl rfl ?_
      refine zi_iload_n h rfl rfl ?_
      refine zk_V h [_] rfl (by first | rfl | assumption) rfl rfl (Nat.le_of_ble_eq_true rfl) (s_num hcc hqc ?_)
      refine zn_iconst h 1 rfl rfl ?_
      refine zp_boo h rfl (by first | rfl | assumption) (by decide) rfl (by first | exact Or.inl rfl | exact Or.inr rfl | assumption) ?_
      refine zn_iconst h 1 rfl rfl ?_
      refine zi_zret h rfl (by first | exact Or.inl rfl | exact Or.inr rfl | exact tw_nz_01 _ | assumption) ?_
      exact h2 hc
    · refine zn_iconst h 0 rfl rfl ?_
      refine zi_zret h rfl (by first | exact Or.inl rfl | exact Or.inr rfl | exact tw_nz_01 _ | assumption) ?_
      exact h1 hc
set_option maxRecDepth 20000 in
theorem s_dsk1 {fl : Bool} {d : Nat} {f : tw_S} {P : tw_S → Option tw_A → Prop} {i : Nat} (hi : i < 5) (hP : P f (some (tw_I 1))) : tS fl (d + 1) 96 [tw_I (nI i)] f P := s_isDisk (fun _ _ _ => hP) (fun g => by
  rcases g with g | g
  · exact absurd g (nI_pos (by omega))
  · exact absurd ((nI_leI (by omega) (by omega)).mp g) (by omega))
set_option maxRecDepth 20000 in
theorem s_dsk0 {fl : Bool} {d : Nat} {f : tw_S} {P : tw_S → Option tw_A → Prop} {x : Int32} (hx : x < 0 ∨ nI 5 ≤ x) (hP : P f (some (tw_I 0))) : tS fl (d + 1) 96 [tw_I x] f P := s_isDisk (fun j h1 h2 => by
  subst h2
  rcases hx with g | g
  · exact absurd g (nI_pos (by omega))
  · exact absurd ((nI_leI (by omega) (by omega)).mp g) (by omega)) (fun _ => hP)
set_option maxRecDepth 20000 in
theorem s_lose_x {fl : Bool} {d : Nat} {f : tw_S} {P : tw_S → Option tw_A → Prop} {x : Int32} (hx : x < 0 ∨ nI 5 ≤ x) (hP : P f (some (tw_I 0))) : tS fl (d + 2) 97 [tw_R 0, tw_I x] f P := by
  refine tw_Sp_of rfl rfl (Nat.le_of_ble_eq_true rfl) (fun X h => ?_)
  refine zi_iload_n h rfl rfl ?_
  refine zk_S h [_] rfl rfl rfl (Nat.le_of_ble_eq_true rfl) (s_dsk0 hx ?_)
  first | refine zb_ifeq h rfl (fun hc => ?_) (fun hc => ?_) | refine zc_ifeq h rfl (fun hc => ?_) (fun hc => ?_)
  · refine zn_iconst h 0 rfl rfl ?_
    refine zi_zret h rfl (by first | exact Or.inl rfl | exact Or.inr rfl | exact tw_nz_01 _ | assumption) ?_
    exact hP
  · exact absurd rfl hc
set_option maxRecDepth 20000 in
theorem s_lose_i {fl : Bool} {d : Nat} {f : tw_S} {P : tw_S → Option tw_A → Prop} {i : Nat} (hi : i < 5) (h1 : f 2 i = 0 → P f (some (tw_I 0))) (h2 : ¬ f 2 i = 0 → P (fun q j => if q = 2 ∧ j = i then 0 else if q = 5 ∧ i * 8 ≤ j ∧ j < i * 8 + 8 then 1 else f q j) (some (tw_I 1))) : tS fl (d + 2) 97 [tw_R 0, tw_I (nI i)] f P := by
  refine tw_Sp_of rfl rfl (Nat.le_of_ble_eq_true rfl) (fun X h => ?_)
  refine zi_iload_n h rfl rfl ?_
  refine zk_S h [_] rfl rfl rfl (Nat.le_of_ble_eq_true rfl) (s_dsk1 hi ?_)
  first | refine zb_ifeq h rfl (fun hc => ?_) (fun hc => ?_) | refine zc_ifeq h rfl (fun hc => ?_) (fun hc => ?_)
  · exact absurd hc (by decide)
  · refine zi_aload_n h rfl rfl ?_
    refine zg_ref h rfl (by first | rfl | assumption) (by decide) rfl rfl ?_
    refine zg_ref h rfl (by first | rfl | assumption) (by decide) rfl rfl ?_
    refine zi_iload_n h rfl rfl ?_
    refine za_z h rfl (by first | rfl | assumption) rfl (by omega) (by decide) ?_
    first | refine zb_ifne h rfl (fun hc => ?_) (fun hc => ?_) | refine zc_ifne h rfl (fun hc => ?_) (fun hc => ?_)
    · refine zi_aload_n h rfl rfl ?_
      refine zg_ref h rfl (by first | rfl | assumption) (by decide) rfl rfl ?_
      refine zi_iload_n h rfl rfl ?_
      refine zk_V h [_] rfl (by first | rfl | assumption) rfl rfl (Nat.le_of_ble_eq_true rfl) (s_remove hi ?_)
      refine zn_iconst h 1 rfl rfl ?_
      refine zi_zret h rfl (by first | exact Or.inl rfl | exact Or.inr rfl | exact tw_nz_01 _ | assumption) ?_
      exact h2 hc
    · refine zn_iconst h 0 rfl rfl ?_
      refine zi_zret h rfl (by first | exact Or.inl rfl | exact Or.inr rfl | exact tw_nz_01 _ | assumption) ?_
      exact h1 hc
set_option maxRecDepth 20000 in
theorem s_replace_x {fl : Bool} {d : Nat} {f : tw_S} {P : tw_S → Option tw_A → Prop} {x : Int32} (hx : x < 0 ∨ nI 5 ≤ x) (hP : P f (some (tw_I 0))) : tS fl (d + 4) 98 [tw_R 0, tw_I x] f P := by
  refine tw_Sp_of rfl rfl (Nat.le_of_ble_eq_true rfl) (fun X h => ?_)
  refine zi_iload_n h rfl rfl ?_
  refine zk_S h [_] rfl rfl rfl (Nat.le_of_ble_eq_true rfl) (s_dsk0 hx ?_)
  first | refine zb_ifeq h rfl (fun hc => ?_) (fun hc => ?_) | refine zc_ifeq h rfl (fun hc => ?_) (fun hc => ?_)
  · refine zn_iconst h 0 rfl rfl ?_
    refine zi_zret h rfl (by first | exact Or.inl rfl | exact Or.inr rfl | exact tw_nz_01 _ | assumption) ?_
    exact hP
  · exact absurd rfl hc
set_option maxRecDepth 20000 in
theorem s_replace_i {fl : Bool} {d : Nat} {f : tw_S} {P : tw_S → Option tw_A → Prop} {i : Nat} (hi : i < 5) (h1 : ¬ f 2 i = 0 → P f (some (tw_I 0))) (h2 : f 2 i = 0 → P (tw_up (tw_up f 3 i (p_great (f 2) (f 3) 5)) 2 i 1) (some (tw_I 1))) : tS fl (d + 4) 98 [tw_R 0, tw_I (nI i)] f P := by
  refine tw_Sp_of rfl rfl (Nat.le_of_ble_eq_true rfl) (fun X h => ?_)
  refine zi_iload_n h rfl rfl ?_
  refine zk_S h [_] rfl rfl rfl (Nat.le_of_ble_eq_true rfl) (s_dsk1 hi ?_)
  first | refine zb_ifeq h rfl (fun hc => ?_) (fun hc => ?_) | refine zc_ifeq h rfl (fun hc => ?_) (fun hc => ?_)
  · exact absurd hc (by decide)
  · refine zi_aload_n h rfl rfl ?_
    refine zg_ref h rfl (by first | rfl | assumption) (by decide) rfl rfl ?_
    refine zg_ref h rfl (by first | rfl | assumption) (by decide) rfl rfl ?_
    refine zi_iload_n h rfl rfl ?_
    refine za_z h rfl (by first | rfl | assumption) rfl (by omega) (by decide) ?_
    first | refine zb_ifeq h rfl (fun hc => ?_) (fun hc => ?_) | refine zc_ifeq h rfl (fun hc => ?_) (fun hc => ?_)
    · refine zi_aload_n h rfl rfl ?_
      refine zg_ref h rfl (by first | rfl | assumption) (by decide) rfl rfl ?_
      refine zi_iload_n h rfl rfl ?_
      refine zk_V h [_] rfl (by first | rfl | assumption) rfl rfl (Nat.le_of_ble_eq_true rfl) (s_insert hi ?_)
      refine zn_iconst h 1 rfl rfl ?_
      refine zi_zret h rfl (by first | exact Or.inl rfl | exact Or.inr rfl | exact tw_nz_01 _ | assumption) ?_
      exact h2 hc
    · refine zn_iconst h 0 rfl rfl ?_
      refine zi_zret h rfl (by first | exact Or.inl rfl | exact Or.inr rfl | exact tw_nz_01 _ | assumption) ?_
      exact h1 hc
set_option maxRecDepth 20000 in
theorem s_rebuild_x {fl : Bool} {d : Nat} {f : tw_S} {P : tw_S → Option tw_A → Prop} {x : Int32} (hx : x < 0 ∨ nI 5 ≤ x) (hP : P f (some (tw_I (-1)))) : tS fl (d + 3) 99 [tw_R 0, tw_I x] f P := by
  refine tw_Sp_of rfl rfl (Nat.le_of_ble_eq_true rfl) (fun X h => ?_)
  refine zi_iload_n h rfl rfl ?_
  refine zk_S h [_] rfl rfl rfl (Nat.le_of_ble_eq_true rfl) (s_dsk0 hx ?_)
  first | refine zb_ifeq h rfl (fun hc => ?_) (fun hc => ?_) | refine zc_ifeq h rfl (fun hc => ?_) (fun hc => ?_)
  · refine zi_iconst h rfl ?_
    refine zi_iret h rfl ?_
    exact hP
  · exact absurd rfl hc
set_option maxRecDepth 20000 in
theorem s_rebuild_i {fl : Bool} {d : Nat} {f : tw_S} {P : tw_S → Option tw_A → Prop} {i : Nat} (hi : i < 5) (h1 : f 2 i = 0 → P f (some (tw_I (-1)))) (h2 : ¬ f 2 i = 0 → ¬ p_ft (fun s => f 5 (i * 8 + s)) 8 0 < 8 → P f (some (tw_I (-1)))) (h3 : ¬ f 2 i = 0 → p_ft (fun s => f 5 (i * 8 + s)) 8 0 < 8 → p_om (f 5) i (p_ft (fun s => f 5 (i * 8 + s)) 8 0) 5 → P f (some (tw_I (-1)))) (h4 : ¬ f 2 i = 0 → p_ft (fun s => f 5 (i * 8 + s)) 8 0 < 8 → ¬ p_om (f 5) i (p_ft (fun s => f 5 (i * 8 + s)) 8 0) 5 → P (tw_up (tw_up f 4 (i * 8 + p_ft (fun s => f 5 (i * 8 + s)) 8 0) (p_xor (f 4) i (p_ft (fun s => f 5 (i * 8 + s)) 8 0) 5)) 5 (i * 8 + p_ft (fun s => f 5 (i * 8 + s)) 8 0) 0) (some (tw_I (nI (p_ft (fun s => f 5 (i * 8 + s)) 8 0))))) : tS fl (d + 3) 99 [tw_R 0, tw_I (nI i)] f P := by
  refine tw_Sp_of rfl rfl (Nat.le_of_ble_eq_true rfl) (fun X h => ?_)
  refine zi_iload_n h rfl rfl ?_
  refine zk_S h [_] rfl rfl rfl (Nat.le_of_ble_eq_true rfl) (s_dsk1 hi ?_)
  first | refine zb_ifeq h rfl (fun hc => ?_) (fun hc => ?_) | refine zc_ifeq h rfl (fun hc => ?_) (fun hc => ?_)
  · exact absurd hc (by decide)
  · refine zi_aload_n h rfl rfl ?_
    refine zg_ref h rfl (by first | rfl | assumption) (by decide) rfl rfl ?_
    refine zg_ref h rfl (by first | rfl | assumption) (by decide) rfl rfl ?_
    refine zi_iload_n h rfl rfl ?_
    refine za_z h rfl (by first | rfl | assumption) rfl (by omega) (by decide) ?_
    first | refine zb_ifne h rfl (fun hc => ?_) (fun hc => ?_) | refine zc_ifne h rfl (fun hc => ?_) (fun hc => ?_)
    · have c2 := hc
      refine zi_aload_n h rfl rfl ?_
      refine zg_ref h rfl (by first | rfl | assumption) (by decide) rfl rfl ?_
      refine zi_iload_n h rfl rfl ?_
      refine zk_V h [_] rfl (by first | rfl | assumption) rfl rfl (Nat.le_of_ble_eq_true rfl) (s_lowestMissing hi (fun g => ?_) (fun g => ?_))
      · refine zi_istore_n h rfl (Nat.le_of_ble_eq_true rfl) ?_
        refine zi_iload_n h rfl rfl ?_
        refine zi_iconst h rfl ?_
        refine zc_icmpeq h rfl (fun hc => ?_) (fun hc => ?_)
        · exfalso
          have h9 : ¬ nI (p_ft (fun s => f 5 (i * 8 + s)) 8 0) < 0 := nI_pos (by omega)
          rw [hc] at h9
          exact h9 (by decide)
        · refine zi_aload_n h rfl rfl ?_
          refine zg_ref h rfl (by first | rfl | assumption) (by decide) rfl rfl ?_
          refine zi_iload_n h rfl rfl ?_
          refine zi_iload_n h rfl rfl ?_
          refine zk_V h [_, _] rfl (by first | rfl | assumption) rfl rfl (Nat.le_of_ble_eq_true rfl) (s_isOtherMissing hi g (fun k => ?_) (fun k => ?_))
          · first | refine zb_ifeq h rfl (fun hc => ?_) (fun hc => ?_) | refine zc_ifeq h rfl (fun hc => ?_) (fun hc => ?_)
            · exact absurd hc (by decide)
            · refine zi_iconst h rfl ?_
              refine zi_iret h rfl ?_
              exact h3 c2 g k
          · first | refine zb_ifeq h rfl (fun hc => ?_) (fun hc => ?_) | refine zc_ifeq h rfl (fun hc => ?_) (fun hc => ?_)
            · refine zi_aload_n h rfl rfl ?_
              refine zg_ref h rfl (by first | rfl | assumption) (by decide) rfl rfl ?_
              refine zi_iload_n h rfl rfl ?_
              refine zi_iload_n h rfl rfl ?_
              refine zi_aload_n h rfl rfl ?_
              refine zg_ref h rfl (by first | rfl | assumption) (by decide) rfl rfl ?_
              refine zi_iload_n h rfl rfl ?_
              refine zi_iload_n h rfl rfl ?_
              refine zk_V h [_, _] rfl (by first | rfl | assumption) rfl rfl (Nat.le_of_ble_eq_true rfl) (s_xorOfOthers hi g ?_)
              refine zk_V h [_, _, _] rfl (by first | rfl | assumption) rfl rfl (Nat.le_of_ble_eq_true rfl) (s_put hi g ?_)
              refine zi_iload_n h rfl rfl ?_
              refine zi_iret h rfl ?_
              exact h4 c2 g k
            · exact absurd rfl hc
      · refine zi_istore_n h rfl (Nat.le_of_ble_eq_true rfl) ?_
        refine zi_iload_n h rfl rfl ?_
        refine zi_iconst h rfl ?_
        refine zc_icmpeq h rfl (fun hc => ?_) (fun hc => ?_)
        · refine zi_iconst h rfl ?_
          refine zi_iret h rfl ?_
          exact h2 c2 g
        · exact absurd rfl hc
    · refine zi_iconst h rfl ?_
      refine zi_iret h rfl ?_
      exact h1 hc
set_option maxRecDepth 20000 in
theorem s_keyOf_x {fl : Bool} {d : Nat} {f : tw_S} {P : tw_S → Option tw_A → Prop} {x : Int32} (hx : x < 0 ∨ nI 5 ≤ x) (hP : P f (some (tw_I (-1)))) : tS fl (d + 2) 104 [tw_R 0, tw_I x] f P := by
  refine tw_Sp_of rfl rfl (Nat.le_of_ble_eq_true rfl) (fun X h => ?_)
  refine zi_iload_n h rfl rfl ?_
  refine zk_S h [_] rfl rfl rfl (Nat.le_of_ble_eq_true rfl) (s_dsk0 hx ?_)
  first | refine zb_ifeq h rfl (fun hc => ?_) (fun hc => ?_) | refine zc_ifeq h rfl (fun hc => ?_) (fun hc => ?_)
  · refine zi_iconst h rfl ?_
    refine zi_iret h rfl ?_
    exact hP
  · exact absurd rfl hc
set_option maxRecDepth 20000 in
theorem s_keyOf_i {fl : Bool} {d : Nat} {f : tw_S} {P : tw_S → Option tw_A → Prop} {i : Nat} (hi : i < 5) (h1 : f 2 i = 0 → P f (some (tw_I (-1)))) (h2 : ¬ f 2 i = 0 → P f (some (tw_I (f 3 i)))) : tS fl (d + 2) 104 [tw_R 0, tw_I (nI i)] f P := by
  refine tw_Sp_of rfl rfl (Nat.le_of_ble_eq_true rfl) (fun X h => ?_)
  refine zi_iload_n h rfl rfl ?_
  refine zk_S h [_] rfl rfl rfl (Nat.le_of_ble_eq_true rfl) (s_dsk1 hi ?_)
  first | refine zb_ifeq h rfl (fun hc => ?_) (fun hc => ?_) | refine zc_ifeq h rfl (fun hc => ?_) (fun hc => ?_)
  · exact absurd hc (by decide)
  · refine zi_aload_n h rfl rfl ?_
    refine zg_ref h rfl (by first | rfl | assumption) (by decide) rfl rfl ?_
    refine zg_ref h rfl (by first | rfl | assumption) (by decide) rfl rfl ?_
    refine zi_iload_n h rfl rfl ?_
    refine za_z h rfl (by first | rfl | assumption) rfl (by omega) (by decide) ?_
    first | refine zb_ifeq h rfl (fun hc => ?_) (fun hc => ?_) | refine zc_ifeq h rfl (fun hc => ?_) (fun hc => ?_)
    · refine zi_iconst h rfl ?_
      refine zi_iret h rfl ?_
      exact h1 hc
    · refine zi_aload_n h rfl rfl ?_
      refine zg_ref h rfl (by first | rfl | assumption) (by decide) rfl rfl ?_
      refine zg_ref h rfl (by first | rfl | assumption) (by decide) rfl rfl ?_
      refine zi_iload_n h rfl rfl ?_
      refine za_i h rfl (by first | rfl | assumption) rfl (by omega) (by decide) ?_
      refine zi_goto h rfl ?_
      refine zi_iret h rfl ?_
      exact h2 hc
set_option maxRecDepth 20000 in
theorem s_str1 {fl : Bool} {d : Nat} {f : tw_S} {P : tw_S → Option tw_A → Prop} {i : Nat} (hi : i < 8) (hP : P f (some (tw_I 1))) : tS fl (d + 1) 102 [tw_I (nI i)] f P := s_isStripe (fun _ _ _ => hP) (fun g => by
  rcases g with g | g
  · exact absurd g (nI_pos (by omega))
  · exact absurd ((nI_leI (by omega) (by omega)).mp g) (by omega))
set_option maxRecDepth 20000 in
theorem s_str0 {fl : Bool} {d : Nat} {f : tw_S} {P : tw_S → Option tw_A → Prop} {x : Int32} (hx : x < 0 ∨ nI 8 ≤ x) (hP : P f (some (tw_I 0))) : tS fl (d + 1) 102 [tw_I x] f P := s_isStripe (fun j h1 h2 => by
  subst h2
  rcases hx with g | g
  · exact absurd g (nI_pos (by omega))
  · exact absurd ((nI_leI (by omega) (by omega)).mp g) (by omega)) (fun _ => hP)
set_option maxRecDepth 20000 in
theorem s_parityGood_x {fl : Bool} {d : Nat} {f : tw_S} {P : tw_S → Option tw_A → Prop} {x : Int32} (hx : x < 0 ∨ nI 8 ≤ x) (hP : P f (some (tw_I (-1)))) : tS fl (d + 4) 103 [tw_R 0, tw_I x] f P := by
  refine tw_Sp_of rfl rfl (Nat.le_of_ble_eq_true rfl) (fun X h => ?_)
  refine zi_iload_n h rfl rfl ?_
  refine zk_S h [_] rfl rfl rfl (Nat.le_of_ble_eq_true rfl) (s_str0 hx ?_)
  first | refine zb_ifeq h rfl (fun hc => ?_) (fun hc => ?_) | refine zc_ifeq h rfl (fun hc => ?_) (fun hc => ?_)
  · refine zi_iconst h rfl ?_
    refine zi_iret h rfl ?_
    exact hP
  · exact absurd rfl hc
set_option maxRecDepth 20000 in
theorem s_parityGood_s {fl : Bool} {d : Nat} {f : tw_S} {P : tw_S → Option tw_A → Prop} {s : Nat} (hs : s < 8) (h1 : p_om (f 5) 5 s 5 → P f (some (tw_I (-1)))) (h2 : ¬ p_om (f 5) 5 s 5 → f 4 (p_pd s * 8 + s) = p_xor (f 4) (p_pd s) s 5 → P f (some (tw_I 1))) (h3 : ¬ p_om (f 5) 5 s 5 → ¬ f 4 (p_pd s * 8 + s) = p_xor (f 4) (p_pd s) s 5 → P f (some (tw_I 0))) : tS fl (d + 4) 103 [tw_R 0, tw_I (nI s)] f P := by
  have hp : p_pd s < 5 := by unfold p_pd; omega
  refine tw_Sp_of rfl rfl (Nat.le_of_ble_eq_true rfl) (fun X h => ?_)
  refine zi_iload_n h rfl rfl ?_
  refine zk_S h [_] rfl rfl rfl (Nat.le_of_ble_eq_true rfl) (s_str1 hs ?_)
  first | refine zb_ifeq h rfl (fun hc => ?_) (fun hc => ?_) | refine zc_ifeq h rfl (fun hc => ?_) (fun hc => ?_)
  · exact absurd hc (by decide)
  · refine zi_aload_n h rfl rfl ?_
    refine zg_ref h rfl (by first | rfl | assumption) (by decide) rfl rfl ?_
    refine zi_iload_n h rfl rfl ?_
    refine zk_V h [_] rfl (by first | rfl | assumption) rfl rfl (Nat.le_of_ble_eq_true rfl) (s_isAnyMissing hs (fun g => ?_) (fun g => ?_))
    · first | refine zb_ifeq h rfl (fun hc => ?_) (fun hc => ?_) | refine zc_ifeq h rfl (fun hc => ?_) (fun hc => ?_)
      · exact absurd hc (by decide)
      · refine zi_iconst h rfl ?_
        refine zi_iret h rfl ?_
        exact h1 g
    · first | refine zb_ifeq h rfl (fun hc => ?_) (fun hc => ?_) | refine zc_ifeq h rfl (fun hc => ?_) (fun hc => ?_)
      · refine zi_iload_n h rfl rfl ?_
        refine zk_S h [_] rfl rfl rfl (Nat.le_of_ble_eq_true rfl) (s_parityDisk hs ?_)
        refine zi_istore_n h rfl (Nat.le_of_ble_eq_true rfl) ?_
        refine zi_aload_n h rfl rfl ?_
        refine zg_ref h rfl (by first | rfl | assumption) (by decide) rfl rfl ?_
        refine zi_iload_n h rfl rfl ?_
        refine zi_iload_n h rfl rfl ?_
        refine zk_V h [_, _] rfl (by first | rfl | assumption) rfl rfl (Nat.le_of_ble_eq_true rfl) (s_blockOn hp hs ?_)
        refine zi_aload_n h rfl rfl ?_
        refine zg_ref h rfl (by first | rfl | assumption) (by decide) rfl rfl ?_
        refine zi_iload_n h rfl rfl ?_
        refine zi_iload_n h rfl rfl ?_
        refine zk_V h [_, _] rfl (by first | rfl | assumption) rfl rfl (Nat.le_of_ble_eq_true rfl) (s_xorOfOthers hp hs ?_)
        refine zc_icmpne h rfl (fun hc => ?_) (fun hc => ?_)
        · refine zn_iconst h 0 rfl rfl ?_
          refine zi_iret h rfl ?_
          exact h3 g hc
        · refine zn_iconst h 1 rfl rfl ?_
          refine zi_goto h rfl ?_
          refine zi_iret h rfl ?_
          exact h2 g hc
      · exact absurd rfl hc
