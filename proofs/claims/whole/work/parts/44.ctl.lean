/-! A controller: cell q (17 or 39). -/
set_option maxRecDepth 20000 in
theorem s_owns {fl : Bool} {d : Nat} {f : tw_S} {P : tw_S → Option tw_A → Prop} {q u : Nat} (hq : q = 17 ∨ q = 39) (h1 : p_bit (f q 11) u → P f (some (tw_I 1))) (h2 : ¬ p_bit (f q 11) u → P f (some (tw_I 0))) : tS fl (d + 2) 6 [tw_R q, tw_I (nI u)] f P := by
  have lc := tx_ctl hq
  obtain ⟨a0, a1, a2, a3, a4⟩ := tx_ent (tx_c1 hq)
  obtain ⟨m0, m1, m2, m3, m4⟩ := tx_ent (tx_c6 hq)
  obtain ⟨i0, i1, i2, i3, i4, i5⟩ := tx_inb (tx_c11 hq)
  obtain ⟨d0, d1, d2, d3⟩ := tx_des (tx_c17 hq)
  have w0 := tx_dwr (tx_c21 hq)
  refine tw_Sp_of rfl rfl (Nat.le_of_ble_eq_true rfl) (fun X h => ?_)
  refine zi_aload_n h rfl rfl ?_
  refine zg_int h rfl (by first | rfl | assumption) (by decide) rfl ?_
  refine zi_iload_n h rfl rfl ?_
  refine zk_S h [_, _] rfl rfl rfl (Nat.le_of_ble_eq_true rfl) (s_isIn (fun hb => ?_) (fun hb => ?_))
  · refine zi_zret h rfl (by first | exact Or.inl rfl | exact Or.inr rfl | exact tw_nz_01 _ | assumption) ?_
    exact h1 hb
  · refine zi_zret h rfl (by first | exact Or.inl rfl | exact Or.inr rfl | exact tw_nz_01 _ | assumption) ?_
    exact h2 hb
set_option maxRecDepth 20000 in
theorem s_serves {fl : Bool} {d : Nat} {f : tw_S} {P : tw_S → Option tw_A → Prop} {q k : Nat} (hq : q = 17 ∨ q = 39) (hk : k < 32) (h1 : (¬ f q 6 = 0 ∧ p_bit (f q 11) (k / 16)) → P f (some (tw_I 1))) (h2 : ¬ (¬ f q 6 = 0 ∧ p_bit (f q 11) (k / 16)) → P f (some (tw_I 0))) : tS fl (d + 3) 7 [tw_R q, tw_I (nI k)] f P := by
  have lc := tx_ctl hq
  obtain ⟨a0, a1, a2, a3, a4⟩ := tx_ent (tx_c1 hq)
  obtain ⟨m0, m1, m2, m3, m4⟩ := tx_ent (tx_c6 hq)
  obtain ⟨i0, i1, i2, i3, i4, i5⟩ := tx_inb (tx_c11 hq)
  obtain ⟨d0, d1, d2, d3⟩ := tx_des (tx_c17 hq)
  have w0 := tx_dwr (tx_c21 hq)
  refine tw_Sp_of rfl rfl (Nat.le_of_ble_eq_true rfl) (fun X h => ?_)
  refine zi_aload_n h rfl rfl ?_
  refine zg_boo h rfl (by first | rfl | assumption) (by decide) rfl ?_
  first | refine zb_ifeq h rfl (fun hc => ?_) (fun hc => ?_) | refine zc_ifeq h rfl (fun hc => ?_) (fun hc => ?_)
  · refine zn_iconst h 0 rfl rfl ?_
    refine zi_zret h rfl (by first | exact Or.inl rfl | exact Or.inr rfl | exact tw_nz_01 _ | assumption) ?_
    exact h2 (fun g => g.1 hc)
  · have hc0 := hc
    refine zi_aload_n h rfl rfl ?_
    refine zi_iload_n h rfl rfl ?_
    refine zn_bipush h 16 rfl rfl ?_
    refine zn_idiv h rfl (by omega) (by omega) (by omega) ?_
    refine zk_V h [_] rfl (by first | rfl | assumption) rfl rfl (Nat.le_of_ble_eq_true rfl) (s_owns hq (fun hb => ?_) (fun hb => ?_))
    · first | refine zb_ifeq h rfl (fun hc => ?_) (fun hc => ?_) | refine zc_ifeq h rfl (fun hc => ?_) (fun hc => ?_)
      · exact absurd hc (by decide)
      · refine zn_iconst h 1 rfl rfl ?_
        refine zi_goto h rfl ?_
        refine zi_zret h rfl (by first | exact Or.inl rfl | exact Or.inr rfl | exact tw_nz_01 _ | assumption) ?_
        exact h1 ⟨hc0, hb⟩
    · first | refine zb_ifeq h rfl (fun hc => ?_) (fun hc => ?_) | refine zc_ifeq h rfl (fun hc => ?_) (fun hc => ?_)
      · refine zn_iconst h 0 rfl rfl ?_
        refine zi_zret h rfl (by first | exact Or.inl rfl | exact Or.inr rfl | exact tw_nz_01 _ | assumption) ?_
        exact h2 (fun g => hb g.2)
      · exact absurd rfl hc
set_option maxRecDepth 20000 in
theorem s_newVersion {fl : Bool} {d : Nat} {f : tw_S} {P : tw_S → Option tw_A → Prop} {q : Nat} (hq : q = 17 ∨ q = 39) (hP : P (tw_up f q 16 (f q 16 + 1)) (some (tw_I (f q 16 + 1)))) : tS fl (d + 1) 8 [tw_R q] f P := by
  have lc := tx_ctl hq
  obtain ⟨a0, a1, a2, a3, a4⟩ := tx_ent (tx_c1 hq)
  obtain ⟨m0, m1, m2, m3, m4⟩ := tx_ent (tx_c6 hq)
  obtain ⟨i0, i1, i2, i3, i4, i5⟩ := tx_inb (tx_c11 hq)
  obtain ⟨d0, d1, d2, d3⟩ := tx_des (tx_c17 hq)
  have w0 := tx_dwr (tx_c21 hq)
  refine tw_Sp_of rfl rfl (Nat.le_of_ble_eq_true rfl) (fun X h => ?_)
  refine zi_aload_n h rfl rfl ?_
  refine zi_dup h rfl rfl ?_
  refine zg_int h rfl (by first | rfl | assumption) (by decide) rfl ?_
  refine zn_iconst h 1 rfl rfl ?_
  first | refine zn_iadd h rfl ?_ | refine zi_iadd h rfl ?_
  refine zp_int h rfl (by first | rfl | assumption) (by decide) rfl ?_
  refine zi_aload_n h rfl rfl ?_
  refine zg_int h rfl (by first | rfl | assumption) (by decide) rfl ?_
  refine zi_iret h rfl ?_
  simpa [tw_up, tw_n1] using hP
set_option maxRecDepth 20000 in
theorem s_forget {fl : Bool} {d : Nat} {f : tw_S} {P : tw_S → Option tw_A → Prop} {q : Nat} (hq : q = 17 ∨ q = 39) (hP : P (p_forget f q) none) : tS fl (d + 3) 11 [tw_R q] f P := by
  have lc := tx_ctl hq
  obtain ⟨a0, a1, a2, a3, a4⟩ := tx_ent (tx_c1 hq)
  obtain ⟨m0, m1, m2, m3, m4⟩ := tx_ent (tx_c6 hq)
  obtain ⟨i0, i1, i2, i3, i4, i5⟩ := tx_inb (tx_c11 hq)
  obtain ⟨d0, d1, d2, d3⟩ := tx_des (tx_c17 hq)
  have w0 := tx_dwr (tx_c21 hq)
  refine tw_Sp_of rfl rfl (Nat.le_of_ble_eq_true rfl) (fun X h => ?_)
  refine zi_aload_n h rfl rfl ?_
  refine zn_iconst h 0 rfl rfl ?_
  refine zp_boo h rfl (by first | rfl | assumption) (by decide) rfl (by first | exact Or.inl rfl | exact Or.inr rfl | assumption) ?_
  refine zi_aload_n h rfl rfl ?_
  refine zn_iconst h 0 rfl rfl ?_
  refine zp_boo h rfl (by first | rfl | assumption) (by decide) rfl (by first | exact Or.inl rfl | exact Or.inr rfl | assumption) ?_
  refine zi_aload_n h rfl rfl ?_
  refine zn_iconst h 0 rfl rfl ?_
  refine zp_boo h rfl (by first | rfl | assumption) (by decide) rfl (by first | exact Or.inl rfl | exact Or.inr rfl | assumption) ?_
  refine zi_aload_n h rfl rfl ?_
  show X 10 _ _ _ _
  refine zn_iconst h 0 rfl rfl ?_
  refine zp_boo h rfl (by first | rfl | assumption) (by decide) rfl (by first | exact Or.inl rfl | exact Or.inr rfl | assumption) ?_
  refine zi_aload_n h rfl rfl ?_
  refine zn_iconst h 0 rfl rfl ?_
  refine zp_int h rfl (by first | rfl | assumption) (by decide) rfl ?_
  refine zi_aload_n h rfl rfl ?_
  refine zn_iconst h 0 rfl rfl ?_
  refine zp_int h rfl (by first | rfl | assumption) (by decide) rfl ?_
  refine zi_aload_n h rfl rfl ?_
  refine zn_iconst h 0 rfl rfl ?_
  show X 20 _ _ _ _
  refine zp_int h rfl (by first | rfl | assumption) (by decide) rfl ?_
  refine zi_aload_n h rfl rfl ?_
  refine zn_iconst h 0 rfl rfl ?_
  refine zp_int h rfl (by first | rfl | assumption) (by decide) rfl ?_
  refine zi_aload_n h rfl rfl ?_
  refine zn_iconst h 0 rfl rfl ?_
  refine zp_int h rfl (by first | rfl | assumption) (by decide) rfl ?_
  refine zi_aload_n h rfl rfl ?_
  refine zn_iconst h 0 rfl rfl ?_
  refine zp_int h rfl (by first | rfl | assumption) (by decide) rfl ?_
  show X 30 _ _ _ _
  refine zi_aload_n h rfl rfl ?_
  refine zg_ref h rfl (by first | rfl | assumption) (by decide) rfl rfl ?_
  refine zk_V h [] rfl (by first | rfl | assumption) rfl rfl (Nat.le_of_ble_eq_true rfl) (s_dropAll (tx_c1 hq) ?_)
  refine zi_aload_n h rfl rfl ?_
  refine zg_ref h rfl (by first | rfl | assumption) (by decide) rfl rfl ?_
  refine zk_V h [] rfl (by first | rfl | assumption) rfl rfl (Nat.le_of_ble_eq_true rfl) (s_dropAll (tx_c6 hq) ?_)
  refine zi_aload_n h rfl rfl ?_
  refine zg_ref h rfl (by first | rfl | assumption) (by decide) rfl rfl ?_
  refine zi_iconst h rfl ?_
  refine zp_int h rfl (by first | rfl | assumption) (by decide) rfl ?_
  refine zi_aload_n h rfl rfl ?_
  refine zg_ref h rfl (by first | rfl | assumption) (by decide) rfl rfl ?_
  refine zn_iconst h 0 rfl rfl ?_
  refine zp_boo h rfl (by first | rfl | assumption) (by decide) rfl (by first | exact Or.inl rfl | exact Or.inr rfl | assumption) ?_
  refine zi_vret h rfl ?_
  exact hP
set_option maxRecDepth 20000 in
theorem s_isReadyToPair {fl : Bool} {d : Nat} {f : tw_S} {P : tw_S → Option tw_A → Prop} {q : Nat} (hq : q = 17 ∨ q = 39) (h1 : (¬ f q 6 = 0 ∧ f q 8 = 0 ∧ f (q + 17) 3 = -1 ∧ p_cd (f (q + 3)) 8 = 0 ∧ f q 12 = 0 ∧ f (q + 21) 0 = 0) → P f (some (tw_I 1))) (h2 : ¬ (¬ f q 6 = 0 ∧ f q 8 = 0 ∧ f (q + 17) 3 = -1 ∧ p_cd (f (q + 3)) 8 = 0 ∧ f q 12 = 0 ∧ f (q + 21) 0 = 0) → P f (some (tw_I 0))) : tS fl (d + 3) 16 [tw_R q] f P := by
  have lc := tx_ctl hq
  obtain ⟨a0, a1, a2, a3, a4⟩ := tx_ent (tx_c1 hq)
  obtain ⟨m0, m1, m2, m3, m4⟩ := tx_ent (tx_c6 hq)
  obtain ⟨i0, i1, i2, i3, i4, i5⟩ := tx_inb (tx_c11 hq)
  obtain ⟨d0, d1, d2, d3⟩ := tx_des (tx_c17 hq)
  have w0 := tx_dwr (tx_c21 hq)
  have hcd := p_cd_le (f (q + 3)) 8
  refine tw_Sp_of rfl rfl (Nat.le_of_ble_eq_true rfl) (fun X h => ?_)
  refine zi_aload_n h rfl rfl ?_
  refine zg_boo h rfl (by first | rfl | assumption) (by decide) rfl ?_
  first | refine zb_ifeq h rfl (fun hc => ?_) (fun hc => ?_) | refine zc_ifeq h rfl (fun hc => ?_) (fun hc => ?_)
  · refine zn_iconst h 0 rfl rfl ?_
    refine zi_zret h rfl (by first | exact Or.inl rfl | exact Or.inr rfl | exact tw_nz_01 _ | assumption) ?_
    exact h2 (fun g => g.1 hc)
  · have c1 := hc
    refine zi_aload_n h rfl rfl ?_
    refine zg_boo h rfl (by first | rfl | assumption) (by decide) rfl ?_
    first | refine zb_ifne h rfl (fun hc => ?_) (fun hc => ?_) | refine zc_ifne h rfl (fun hc => ?_) (fun hc => ?_)
    · refine zn_iconst h 0 rfl rfl ?_
      refine zi_zret h rfl (by first | exact Or.inl rfl | exact Or.inr rfl | exact tw_nz_01 _ | assumption) ?_
      exact h2 (fun g => hc g.2.1)
    · have c2 := hc
      refine zi_aload_n h rfl rfl ?_
      refine zg_ref h rfl (by first | rfl | assumption) (by decide) rfl rfl ?_
      refine zg_int h rfl (by first | rfl | assumption) (by decide) rfl ?_
      refine zi_iconst h rfl ?_
      refine zc_icmpne h rfl (fun hc => ?_) (fun hc => ?_)
      · refine zn_iconst h 0 rfl rfl ?_
        refine zi_zret h rfl (by first | exact Or.inl rfl | exact Or.inr rfl | exact tw_nz_01 _ | assumption) ?_
        exact h2 (fun g => hc g.2.2.1)
      · have c3 := hc
        refine zi_aload_n h rfl rfl ?_
        refine zg_ref h rfl (by first | rfl | assumption) (by decide) rfl rfl ?_
        refine zk_V h [] rfl (by first | rfl | assumption) rfl rfl (Nat.le_of_ble_eq_true rfl) (s_countDirty (tx_c1 hq) ?_)
        refine zc_ifne h rfl (fun hc => ?_) (fun hc => ?_)
        · refine zn_iconst h 0 rfl rfl ?_
          refine zi_zret h rfl (by first | exact Or.inl rfl | exact Or.inr rfl | exact tw_nz_01 _ | assumption) ?_
          exact h2 (fun g => hc ((nI_zero (n := p_cd (f (q + 3)) 8) (by omega)).mpr g.2.2.2.1))
        · have c4 := (nI_zero (n := p_cd (f (q + 3)) 8) (by omega)).mp hc
          refine zi_aload_n h rfl rfl ?_
          refine zg_int h rfl (by first | rfl | assumption) (by decide) rfl ?_
          refine zc_ifne h rfl (fun hc => ?_) (fun hc => ?_)
          · refine zn_iconst h 0 rfl rfl ?_
            refine zi_zret h rfl (by first | exact Or.inl rfl | exact Or.inr rfl | exact tw_nz_01 _ | assumption) ?_
            exact h2 (fun g => hc g.2.2.2.2.1)
          · have c5 := hc
            refine zi_aload_n h rfl rfl ?_
            refine zg_ref h rfl (by first | rfl | assumption) (by decide) rfl rfl ?_
            refine zg_boo h rfl (by first | rfl | assumption) (by decide) rfl ?_
            first | refine zb_ifne h rfl (fun hc => ?_) (fun hc => ?_) | refine zc_ifne h rfl (fun hc => ?_) (fun hc => ?_)
            · refine zn_iconst h 0 rfl rfl ?_
              refine zi_zret h rfl (by first | exact Or.inl rfl | exact Or.inr rfl | exact tw_nz_01 _ | assumption) ?_
              exact h2 (fun g => hc g.2.2.2.2.2)
            · refine zn_iconst h 1 rfl rfl ?_
              refine zi_goto h rfl ?_
              refine zi_zret h rfl (by first | exact Or.inl rfl | exact Or.inr rfl | exact tw_nz_01 _ | assumption) ?_
              exact h1 ⟨c1, c2, c3, c4, c5, hc⟩
set_option maxRecDepth 20000 in
theorem s_beginPaired {fl : Bool} {d : Nat} {f : tw_S} {P : tw_S → Option tw_A → Prop} {q : Nat} {x : Int32} (hq : q = 17 ∨ q = 39) (hP : P (p_begin f q x) none) : tS fl (d + 3) 18 [tw_R q, tw_I x] f P := by
  have lc := tx_ctl hq
  obtain ⟨a0, a1, a2, a3, a4⟩ := tx_ent (tx_c1 hq)
  obtain ⟨m0, m1, m2, m3, m4⟩ := tx_ent (tx_c6 hq)
  obtain ⟨i0, i1, i2, i3, i4, i5⟩ := tx_inb (tx_c11 hq)
  obtain ⟨d0, d1, d2, d3⟩ := tx_des (tx_c17 hq)
  have w0 := tx_dwr (tx_c21 hq)
  refine tw_Sp_of rfl rfl (Nat.le_of_ble_eq_true rfl) (fun X h => ?_)
  refine zi_aload_n h rfl rfl ?_
  refine zn_iconst h 1 rfl rfl ?_
  refine zp_boo h rfl (by first | rfl | assumption) (by decide) rfl (by first | exact Or.inl rfl | exact Or.inr rfl | assumption) ?_
  refine zi_aload_n h rfl rfl ?_
  refine zi_iload_n h rfl rfl ?_
  refine zp_int h rfl (by first | rfl | assumption) (by decide) rfl ?_
  refine zi_aload_n h rfl rfl ?_
  refine zg_ref h rfl (by first | rfl | assumption) (by decide) rfl rfl ?_
  refine zk_V h [] rfl (by first | rfl | assumption) rfl rfl (Nat.le_of_ble_eq_true rfl) (s_dropAll (tx_c1 hq) ?_)
  refine zi_aload_n h rfl rfl ?_
  refine zg_ref h rfl (by first | rfl | assumption) (by decide) rfl rfl ?_
  refine zk_V h [] rfl (by first | rfl | assumption) rfl rfl (Nat.le_of_ble_eq_true rfl) (s_dropAll (tx_c6 hq) ?_)
  refine zi_aload_n h rfl rfl ?_
  refine zg_ref h rfl (by first | rfl | assumption) (by decide) rfl rfl ?_
  refine zk_V h [] rfl (by first | rfl | assumption) rfl rfl (Nat.le_of_ble_eq_true rfl) (s_empty (tx_c11 hq) ?_)
  refine zi_aload_n h rfl rfl ?_
  refine zn_iconst h 0 rfl rfl ?_
  refine zp_int h rfl (by first | rfl | assumption) (by decide) rfl ?_
  refine zi_aload_n h rfl rfl ?_
  refine zn_iconst h 0 rfl rfl ?_
  refine zp_int h rfl (by first | rfl | assumption) (by decide) rfl ?_
  refine zi_vret h rfl ?_
  exact hP
set_option maxRecDepth 20000 in
theorem s_isBusyIn {fl : Bool} {d : Nat} {f : tw_S} {P : tw_S → Option tw_A → Prop} {q u : Nat} (hq : q = 17 ∨ q = 39) (hu : u < 2) (h1 : (∃ i, i < 4 ∧ (p_bit (f q 12) (u * 4 + i) ∨ f (q + 17) 3 = nI (u * 4 + i) ∨ 0 < p_cnt (fun j => f (q + 3) ((u * 4 + i) * 4 + j)) 4)) → P f (some (tw_I 1))) (h2 : ¬ (∃ i, i < 4 ∧ (p_bit (f q 12) (u * 4 + i) ∨ f (q + 17) 3 = nI (u * 4 + i) ∨ 0 < p_cnt (fun j => f (q + 3) ((u * 4 + i) * 4 + j)) 4)) → P f (some (tw_I 0))) : tS fl (d + 2) 19 [tw_R q, tw_I (nI u)] f P := by
  have lc := tx_ctl hq
  obtain ⟨a0, a1, a2, a3, a4⟩ := tx_ent (tx_c1 hq)
  obtain ⟨m0, m1, m2, m3, m4⟩ := tx_ent (tx_c6 hq)
  obtain ⟨i0, i1, i2, i3, i4, i5⟩ := tx_inb (tx_c11 hq)
  obtain ⟨d0, d1, d2, d3⟩ := tx_des (tx_c17 hq)
  have w0 := tx_dwr (tx_c21 hq)
  refine tw_Sp_of rfl rfl (Nat.le_of_ble_eq_true rfl) (fun X h => ?_)
  have loop : ∀ n i : Nat, i + n = 4 → (∀ j, j < i → ¬ (p_bit (f q 12) (u * 4 + j) ∨ f (q + 17) 3 = nI (u * 4 + j) ∨ 0 < p_cnt (fun k => f (q + 3) ((u * 4 + j) * 4 + k)) 4)) → ∀ o, X 2 [some (tw_R q), some (tw_I (nI u)), some (tw_I (nI i)), o] [] tx_L0 f := by
    intro n
    induction n with
    | zero =>
      intro i hi hz o
      obtain rfl : i = 4 := by omega
      refine zi_iload_n h rfl rfl ?_
      refine zn_iconst h 4 rfl rfl ?_
      first | refine zn_icmpge h rfl (by omega) (by omega) (fun hc => ?_) (fun hc => ?_) | refine zc_icmpge h rfl (fun hc => ?_) (fun hc => ?_)
      · refine zn_iconst h 0 rfl rfl ?_
        refine zi_zret h rfl (by first | exact Or.inl rfl | exact Or.inr rfl | exact tw_nz_01 _ | assumption) ?_
        exact h2 (fun ⟨j, g1, g2⟩ => hz j g1 g2)
      · omega
    | succ n ih =>
      intro i hi hz o
      have hcn := p_cnt_le (fun k => f (q + 3) ((u * 4 + i) * 4 + k)) 4
      refine zi_iload_n h rfl rfl ?_
      refine zn_iconst h 4 rfl rfl ?_
      first | refine zn_icmpge h rfl (by omega) (by omega) (fun hc => ?_) (fun hc => ?_) | refine zc_icmpge h rfl (fun hc => ?_) (fun hc => ?_)
      · omega
      · refine zi_iload_n h rfl rfl ?_
        refine zn_iconst h 4 rfl rfl ?_
        first | refine zn_imul h rfl ?_ | refine zi_imul h rfl ?_
        refine zi_iload_n h rfl rfl ?_
        first | refine zn_iadd h rfl ?_ | refine zi_iadd h rfl ?_
        refine zi_istore_n h rfl (Nat.le_of_ble_eq_true rfl) ?_
        refine zi_aload_n h rfl rfl ?_
        refine zg_int h rfl (by first | rfl | assumption) (by decide) rfl ?_
        refine zi_iload_n h rfl rfl ?_
        refine zk_S h [_, _] rfl rfl rfl (Nat.le_of_ble_eq_true rfl) (s_isIn (fun hb => ?_) (fun hb => ?_))
        · first | refine zb_ifne h rfl (fun hc => ?_) (fun hc => ?_) | refine zc_ifne h rfl (fun hc => ?_) (fun hc => ?_)
          · refine zn_iconst h 1 rfl rfl ?_
            refine zi_zret h rfl (by first | exact Or.inl rfl | exact Or.inr rfl | exact tw_nz_01 _ | assumption) ?_
            exact h1 ⟨i, by omega, Or.inl hb⟩
          · exact absurd hc (by decide)
        · first | refine zb_ifne h rfl (fun hc => ?_) (fun hc => ?_) | refine zc_ifne h rfl (fun hc => ?_) (fun hc => ?_)
          · exact absurd rfl hc
          · refine zi_aload_n h rfl rfl ?_
            refine zg_ref h rfl (by first | rfl | assumption) (by decide) rfl rfl ?_
            refine zg_int h rfl (by first | rfl | assumption) (by decide) rfl ?_
            refine zi_iload_n h rfl rfl ?_
            refine zc_icmpeq h rfl (fun hc => ?_) (fun hc => ?_)
            · refine zn_iconst h 1 rfl rfl ?_
              refine zi_zret h rfl (by first | exact Or.inl rfl | exact Or.inr rfl | exact tw_nz_01 _ | assumption) ?_
              exact h1 ⟨i, by omega, Or.inr (Or.inl hc)⟩
            · have c1 := hc
              refine zi_aload_n h rfl rfl ?_
              refine zg_ref h rfl (by first | rfl | assumption) (by decide) rfl rfl ?_
              refine zi_iload_n h rfl rfl ?_
              refine zk_V h [_] rfl (by first | rfl | assumption) rfl rfl (Nat.le_of_ble_eq_true rfl) (s_countDirtyOfStripe (tx_c1 hq) (by omega) ?_)
              refine zc_ifle h rfl (fun hc => ?_) (fun hc => ?_)
              · have c2 : p_cnt (fun k => f (q + 3) ((u * 4 + i) * 4 + k)) 4 ≤ 0 := (nI_leI (a := p_cnt (fun k => f (q + 3) ((u * 4 + i) * 4 + k)) 4) (b := 0) (by omega) (by omega)).mp hc
                have ih := ih (i + 1) (by omega) (fun j hj => by
                  by_cases hji : j = i
                  · subst hji
                    rintro (g | g | g)
                    · exact hb g
                    · exact c1 g
                    · omega
                  · exact hz j (by omega))
                first | refine zn_iinc h 1 rfl rfl rfl ?_ | refine zi_iinc h rfl rfl ?_
                refine zi_goto h rfl ?_
                exact ih _
              · have c2 : ¬ p_cnt (fun k => f (q + 3) ((u * 4 + i) * 4 + k)) 4 ≤ 0 := fun g => hc ((nI_leI (a := p_cnt (fun k => f (q + 3) ((u * 4 + i) * 4 + k)) 4) (b := 0) (by omega) (by omega)).mpr g)
                refine zn_iconst h 1 rfl rfl ?_
                refine zi_zret h rfl (by first | exact Or.inl rfl | exact Or.inr rfl | exact tw_nz_01 _ | assumption) ?_
                exact h1 ⟨i, by omega, Or.inr (Or.inr (by omega))⟩
  refine zn_iconst h 0 rfl rfl ?_
  refine zi_istore_n h rfl (Nat.le_of_ble_eq_true rfl) ?_
  exact loop 4 0 (by omega) (fun j hj => by omega) _
/-- the memory when the first i blocks of a mirror have been taken over -/
def p_tk (f : tw_S) (q g i : Nat) : tw_S := fun c x => if c = q ∧ x = 11 then 3 else if c = q ∧ x = 16 then nI (g + p_cnt (f (q + 7)) i) else if x < i ∧ ¬ f (q + 7) x = 0 ∧ (c = q + 2 ∨ c = q + 3) then 1 else if x < i ∧ ¬ f (q + 7) x = 0 ∧ c = q + 4 then f (q + 9) x else if x < i ∧ ¬ f (q + 7) x = 0 ∧ c = q + 5 then nI (g + p_cnt (f (q + 7)) (x + 1)) else if x < i ∧ ¬ f (q + 7) x = 0 ∧ (c = q + 7 ∨ c = q + 8) then 0 else f c x
set_option maxRecDepth 20000 in
theorem s_finishTakingOver {fl : Bool} {d : Nat} {f : tw_S} {P : tw_S → Option tw_A → Prop} {q g : Nat} (hq : q = 17 ∨ q = 39) (hg : f q 16 = nI g) (hP : P (fun c x => if c = q ∧ x = 12 then f q 12 ||| f q 13 else if c = q ∧ x = 14 then f q 14 ||| f q 13 else if c = q ∧ (x = 13 ∨ x = 8) then 0 else p_tk f q g 32 c x) none) : tS fl (d + 2) 13 [tw_R q] f P := by
  have lc := tx_ctl hq
  obtain ⟨a0, a1, a2, a3, a4⟩ := tx_ent (tx_c1 hq)
  obtain ⟨m0, m1, m2, m3, m4⟩ := tx_ent (tx_c6 hq)
  obtain ⟨i0, i1, i2, i3, i4, i5⟩ := tx_inb (tx_c11 hq)
  obtain ⟨d0, d1, d2, d3⟩ := tx_des (tx_c17 hq)
  have w0 := tx_dwr (tx_c21 hq)
  refine tw_Sp_of rfl rfl (Nat.le_of_ble_eq_true rfl) (fun X h => ?_)
  have loop : ∀ n i : Nat, i + n = 32 → X 5 [some (tw_R q), some (tw_I (nI i))] [] tx_L0 (p_tk f q g i) := by
    intro n
    induction n with
    | zero =>
      intro i hi
      obtain rfl : i = 32 := by omega
      refine zi_iload_n h rfl rfl ?_
      refine zn_bipush h 32 rfl rfl ?_
      first | refine zn_icmpge h rfl (by omega) (by omega) (fun hc => ?_) (fun hc => ?_) | refine zc_icmpge h rfl (fun hc => ?_) (fun hc => ?_)
      · refine zi_aload_n h rfl rfl ?_
        refine zi_dup h rfl rfl ?_
        refine zg_int h rfl (by first | rfl | assumption) (by decide) rfl ?_
        refine zi_aload_n h rfl rfl ?_
        refine zg_int h rfl (by first | rfl | assumption) (by decide) rfl ?_
        refine zi_ior h rfl ?_
        refine zp_int h rfl (by first | rfl | assumption) (by decide) rfl ?_
        refine zi_aload_n h rfl rfl ?_
        refine zi_dup h rfl rfl ?_
        refine zg_int h rfl (by first | rfl | assumption) (by decide) rfl ?_
        show X 42 _ _ _ _
        refine zi_aload_n h rfl rfl ?_
        refine zg_int h rfl (by first | rfl | assumption) (by decide) rfl ?_
        refine zi_ior h rfl ?_
        refine zp_int h rfl (by first | rfl | assumption) (by decide) rfl ?_
        refine zi_aload_n h rfl rfl ?_
        refine zn_iconst h 0 rfl rfl ?_
        refine zp_int h rfl (by first | rfl | assumption) (by decide) rfl ?_
        refine zi_aload_n h rfl rfl ?_
        refine zn_iconst h 0 rfl rfl ?_
        refine zp_boo h rfl (by first | rfl | assumption) (by decide) rfl (by first | exact Or.inl rfl | exact Or.inr rfl | assumption) ?_
        show X 52 _ _ _ _
        refine zi_vret h rfl ?_
        refine tw_memP (fun c x => ?_) hP
        have e1 : p_tk f q g 32 q 12 = f q 12 := by simp [p_tk]
        have e2 : p_tk f q g 32 q 13 = f q 13 := by simp [p_tk]
        have e3 : p_tk f q g 32 q 14 = f q 14 := by simp [p_tk]
        simp only [tw_up, e1, e2, e3]
        generalize p_tk f q g 32 c x = z
        (repeat' split) <;> first | rfl | omega
      · omega
    | succ n ih =>
      intro i hi
      have ih := ih (i + 1) (by omega)
      have e7 : p_tk f q g i (q + 7) i = f (q + 7) i := by simp [p_tk]
      have e9 : p_tk f q g i (q + 9) i = f (q + 9) i := by simp [p_tk]
      have e16 : p_tk f q g i q 16 = nI (g + p_cnt (f (q + 7)) i) := by simp [p_tk]
      refine zi_iload_n h rfl rfl ?_
      refine zn_bipush h 32 rfl rfl ?_
      first | refine zn_icmpge h rfl (by omega) (by omega) (fun hc => ?_) (fun hc => ?_) | refine zc_icmpge h rfl (fun hc => ?_) (fun hc => ?_)
      · omega
      · refine zi_aload_n h rfl rfl ?_
        refine zg_ref h rfl (by first | rfl | assumption) (by decide) rfl rfl ?_
        refine zg_ref h rfl (by first | rfl | assumption) (by decide) rfl rfl ?_
        refine zi_iload_n h rfl rfl ?_
        refine za_z h rfl (by first | rfl | assumption) rfl (by omega) (by decide) ?_
        first | refine zb_ifeq h rfl (fun hc => ?_) (fun hc => ?_) | refine zc_ifeq h rfl (fun hc => ?_) (fun hc => ?_)
        · rw [e7] at hc
          have ec : p_cnt (f (q + 7)) (i + 1) = p_cnt (f (q + 7)) i := by simp [p_cnt, hc]
          first | refine zn_iinc h 1 rfl rfl rfl ?_ | refine zi_iinc h rfl rfl ?_
          refine zi_goto h rfl ?_
          refine tw_mem (fun c x => ?_) ih
          unfold p_tk
          by_cases hx : x = i
          · subst hx
            simp [hc, ec]
          · have e1 : (x < i + 1) = (x < i) := by apply propext; omega
            simp only [e1, ec]
        · rw [e7] at hc
          have ec : p_cnt (f (q + 7)) (i + 1) = p_cnt (f (q + 7)) i + 1 := by simp [p_cnt, hc]
          refine zi_aload_n h rfl rfl ?_
          refine zg_ref h rfl (by first | rfl | assumption) (by decide) rfl rfl ?_
          refine zi_iload_n h rfl rfl ?_
          refine zi_aload_n h rfl rfl ?_
          refine zg_ref h rfl (by first | rfl | assumption) (by decide) rfl rfl ?_
          refine zg_ref h rfl (by first | rfl | assumption) (by decide) rfl rfl ?_
          refine zi_iload_n h rfl rfl ?_
          refine za_i h rfl (by first | rfl | assumption) rfl (by omega) (by decide) ?_
          refine zi_aload_n h rfl rfl ?_
          refine zk_V h [] rfl (by first | rfl | assumption) rfl rfl (Nat.le_of_ble_eq_true rfl) (s_newVersion hq ?_)
          refine zn_iconst h 1 rfl rfl ?_
          refine zk_V h [_, _, _, _] rfl (by first | rfl | assumption) rfl rfl (Nat.le_of_ble_eq_true rfl) (s_eput (tx_c1 hq) (by omega) (Or.inr rfl) ?_)
          refine zi_aload_n h rfl rfl ?_
          refine zg_ref h rfl (by first | rfl | assumption) (by decide) rfl rfl ?_
          refine zi_iload_n h rfl rfl ?_
          refine zk_V h [_] rfl (by first | rfl | assumption) rfl rfl (Nat.le_of_ble_eq_true rfl) (s_drop (tx_c6 hq) (by omega) ?_)
          first | refine zn_iinc h 1 rfl rfl rfl ?_ | refine zi_iinc h rfl rfl ?_
          refine zi_goto h rfl ?_
          have hval : p_tk f q g i q 16 + 1 = nI (g + p_cnt (f (q + 7)) (i + 1)) := by
            rw [e16, ec, nI_1]
            rfl
          refine tw_mem (fun c x => ?_) ih
          simp only [tw_up, hval, e9]
          have e1 : x ≠ i → ((x < i + 1) = (x < i)) := fun hx => by apply propext; omega
          rcases hq with rfl | rfl
          · by_cases hx : x = i
            · subst hx
              by_cases k0 : c = 17 ∨ c = 19 ∨ c = 20 ∨ c = 21 ∨ c = 22 ∨ c = 24 ∨ c = 25
              · rcases k0 with rfl | rfl | rfl | rfl | rfl | rfl | rfl <;> simp [p_tk, hc, tw_n1, tw_n0] <;> ((repeat' split) <;> first | rfl | omega)
              · simp only [not_or] at k0
                simp [p_tk, k0]
            · by_cases u : c = 17 ∧ x = 16
              · obtain ⟨rfl, rfl⟩ := u
                simp [p_tk, hx]
              · simp [p_tk, e1 hx, hx, u]
          · by_cases hx : x = i
            · subst hx
              by_cases k0 : c = 39 ∨ c = 41 ∨ c = 42 ∨ c = 43 ∨ c = 44 ∨ c = 46 ∨ c = 47
              · rcases k0 with rfl | rfl | rfl | rfl | rfl | rfl | rfl <;> simp [p_tk, hc, tw_n1, tw_n0] <;> ((repeat' split) <;> first | rfl | omega)
              · simp only [not_or] at k0
                simp [p_tk, k0]
            · by_cases u : c = 39 ∧ x = 16
              · obtain ⟨rfl, rfl⟩ := u
                simp [p_tk, hx]
              · simp [p_tk, e1 hx, hx, u]
  refine zi_aload_n h rfl rfl ?_
  refine zn_iconst h 3 rfl rfl ?_
  refine zp_int h rfl (by first | rfl | assumption) (by decide) rfl ?_
  refine zn_iconst h 0 rfl rfl ?_
  refine zi_istore_n h rfl (Nat.le_of_ble_eq_true rfl) ?_
  refine tw_mem (fun c x => ?_) (loop 32 0 (by omega))
  have e16 : f q 16 = nI (g + p_cnt (f (q + 7)) 0) := by simp [p_cnt, hg]
  unfold p_tk
  simp only [tw_up]
  (repeat' split) <;> first | rfl | omega | (rename_i u; obtain ⟨u1, u2⟩ := u; subst u1; subst u2; exact e16)
