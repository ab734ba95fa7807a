/-! TwinArray's own: what is taken, what a step does. -/
set_option maxRecDepth 20000 in
theorem s_takeData {fl : Bool} {d : Nat} {f : tw_S} {P : tw_S → Option tw_A → Prop} {q k i : Nat} (hq : q = 17 ∨ q = 39) (hk : k < 32) (hi : i < 4) (hP : P (p_td f q k i) none) : tS fl (d + 4) 78 [tw_R 0, tw_R q, tw_I (nI k), tw_I (nI i)] f P := by
  have lc := tx_ctl hq
  obtain ⟨a0, a1, a2, a3, a4⟩ := tx_ent (tx_c1 hq)
  obtain ⟨m0, m1, m2, m3, m4⟩ := tx_ent (tx_c6 hq)
  obtain ⟨i0, i1, i2, i3, i4, i5⟩ := tx_inb (tx_c11 hq)
  obtain ⟨d0, d1, d2, d3⟩ := tx_des (tx_c17 hq)
  have w0 := tx_dwr (tx_c21 hq)
  refine tw_Sp_of rfl rfl (Nat.le_of_ble_eq_true rfl) (fun X h => ?_)
  refine zi_aload_n h rfl rfl ?_
  refine zg_ref h rfl (by first | rfl | assumption) (by decide) rfl rfl ?_
  refine zg_ref h rfl (by first | rfl | assumption) (by decide) rfl rfl ?_
  refine zi_iload_n h rfl rfl ?_
  refine za_z h rfl (by first | rfl | assumption) rfl (by omega) (by decide) ?_
  first | refine zb_ifeq h rfl (fun hc => ?_) (fun hc => ?_) | refine zc_ifeq h rfl (fun hc => ?_) (fun hc => ?_)
  · rw [p_td, if_pos hc] at hP
    refine zi_aload_n h rfl rfl ?_
    refine zg_ref h rfl (by first | rfl | assumption) (by decide) rfl rfl ?_
    refine zi_iload_n h rfl rfl ?_
    refine zk_V h [_] rfl (by first | rfl | assumption) rfl rfl (Nat.le_of_ble_eq_true rfl) (s_isDataLost hk (fun c1 => ?_) (fun c1 => ?_))
    · rw [p_ite_t c1] at hP
      first | refine zb_ifeq h rfl (fun hc => ?_) (fun hc => ?_) | refine zc_ifeq h rfl (fun hc => ?_) (fun hc => ?_)
      · exact absurd hc (by decide)
      · refine zi_aload_n h rfl rfl ?_
        refine zg_ref h rfl (by first | rfl | assumption) (by decide) rfl rfl ?_
        refine zn_iconst h 1 rfl rfl ?_
        refine zp_boo h rfl (by first | rfl | assumption) (by decide) rfl (by first | exact Or.inl rfl | exact Or.inr rfl | assumption) ?_
        refine zi_goto h rfl ?_
        refine zi_vret h rfl ?_
        exact hP
    · rw [p_ite_f c1] at hP
      first | refine zb_ifeq h rfl (fun hc => ?_) (fun hc => ?_) | refine zc_ifeq h rfl (fun hc => ?_) (fun hc => ?_)
      · refine zi_aload_n h rfl rfl ?_
        refine zg_ref h rfl (by first | rfl | assumption) (by decide) rfl rfl ?_
        refine zg_ref h rfl (by first | rfl | assumption) (by decide) rfl rfl ?_
        refine zi_iload_n h rfl rfl ?_
        refine zi_aload_n h rfl rfl ?_
        refine zg_ref h rfl (by first | rfl | assumption) (by decide) rfl rfl ?_
        refine zi_iload_n h rfl rfl ?_
        refine zk_V h [_] rfl (by first | rfl | assumption) rfl rfl (Nat.le_of_ble_eq_true rfl) (s_dataOf hk ?_)
        refine zs_i h rfl (by first | rfl | assumption) rfl (by omega) (by decide) ?_
        refine zi_vret h rfl ?_
        exact hP
      · exact absurd rfl hc
  · rw [p_td, if_neg hc] at hP
    refine zi_aload_n h rfl rfl ?_
    refine zg_ref h rfl (by first | rfl | assumption) (by decide) rfl rfl ?_
    refine zi_iload_n h rfl rfl ?_
    refine zi_aload_n h rfl rfl ?_
    refine zg_ref h rfl (by first | rfl | assumption) (by decide) rfl rfl ?_
    refine zg_ref h rfl (by first | rfl | assumption) (by decide) rfl rfl ?_
    refine zi_iload_n h rfl rfl ?_
    refine za_i h rfl (by first | rfl | assumption) rfl (by omega) (by decide) ?_
    refine zi_aload_n h rfl rfl ?_
    refine zg_ref h rfl (by first | rfl | assumption) (by decide) rfl rfl ?_
    show X 16 _ _ _ _
    refine zg_ref h rfl (by first | rfl | assumption) (by decide) rfl rfl ?_
    refine zi_iload_n h rfl rfl ?_
    refine za_i h rfl (by first | rfl | assumption) rfl (by omega) (by decide) ?_
    refine zk_V h [_, _, _] rfl (by first | rfl | assumption) rfl rfl (Nat.le_of_ble_eq_true rfl) (s_takeDirty (tx_c17 hq) hi ?_)
    refine zi_goto h rfl ?_
    refine zi_vret h rfl ?_
    exact hP
set_option maxRecDepth 20000 in
theorem s_beginDestaging {fl : Bool} {d : Nat} {f : tw_S} {P : tw_S → Option tw_A → Prop} {q : Nat} (hq : q = 17 ∨ q = 39) (hn : f q 0 = if q = 17 then 0 else 1) (hb : p_box f (56 - q)) (hP : P (p_bd f q (p_ds (f (q + 3)) 7) 4) none) : tS fl (d + 5) 79 [tw_R 0, tw_R q] f P := by
  have lc := tx_ctl hq
  obtain ⟨a0, a1, a2, a3, a4⟩ := tx_ent (tx_c1 hq)
  obtain ⟨m0, m1, m2, m3, m4⟩ := tx_ent (tx_c6 hq)
  obtain ⟨i0, i1, i2, i3, i4, i5⟩ := tx_inb (tx_c11 hq)
  obtain ⟨d0, d1, d2, d3⟩ := tx_des (tx_c17 hq)
  have w0 := tx_dwr (tx_c21 hq)
  have hds := p_ds_le (f (q + 3)) 7
  refine tw_Sp_of rfl rfl (Nat.le_of_ble_eq_true rfl) (fun X h => ?_)
  refine zi_aload_n h rfl rfl ?_
  refine zg_ref h rfl (by first | rfl | assumption) (by decide) rfl rfl ?_
  refine zk_V h [] rfl (by first | rfl | assumption) rfl rfl (Nat.le_of_ble_eq_true rfl) (s_dirtiestStripe (tx_c1 hq) ?_)
  show X 3 _ [tw_I (nI (p_ds (f (q + 3)) 7))] _ _
  generalize p_ds (f (q + 3)) 7 = s at hP hds ⊢
  have loop : ∀ n i : Nat, i + n = 4 → X 24 [some (tw_R 0), some (tw_R q), some (tw_I (nI s)), some (tw_I (nI i))] [] tx_L0 (p_bd f q s i) := by
    intro n
    induction n with
    | zero =>
      intro i hi
      obtain rfl : i = 4 := by omega
      refine zi_iload_n h rfl rfl ?_
      refine zn_iconst h 4 rfl rfl ?_
      first | refine zn_icmpge h rfl (by omega) (by omega) (fun hc => ?_) (fun hc => ?_) | refine zc_icmpge h rfl (fun hc => ?_) (fun hc => ?_)
      · refine zi_vret h rfl ?_
        exact hP
      · omega
    | succ n ih =>
      intro i hi
      have ih := ih (i + 1) (by omega)
      refine zi_iload_n h rfl rfl ?_
      refine zn_iconst h 4 rfl rfl ?_
      first | refine zn_icmpge h rfl (by omega) (by omega) (fun hc => ?_) (fun hc => ?_) | refine zc_icmpge h rfl (fun hc => ?_) (fun hc => ?_)
      · omega
      · refine zi_aload_n h rfl rfl ?_
        refine zi_aload_n h rfl rfl ?_
        refine zi_iload_n h rfl rfl ?_
        refine zn_iconst h 4 rfl rfl ?_
        first | refine zn_imul h rfl ?_ | refine zi_imul h rfl ?_
        refine zi_iload_n h rfl rfl ?_
        first | refine zn_iadd h rfl ?_ | refine zi_iadd h rfl ?_
        refine zi_iload_n h rfl rfl ?_
        refine zk_V h [_, _, _] rfl (by first | rfl | assumption) rfl rfl (Nat.le_of_ble_eq_true rfl) (s_takeData hq (by omega) (by omega) ?_)
        first | refine zn_iinc h 1 rfl rfl rfl ?_ | refine zi_iinc h rfl rfl ?_
        refine zi_goto h rfl ?_
        exact ih
  refine zi_istore_n h rfl (Nat.le_of_ble_eq_true rfl) ?_
  refine zi_aload_n h rfl rfl ?_
  refine zi_dup h rfl rfl ?_
  refine zg_int h rfl (by first | rfl | assumption) (by decide) rfl ?_
  refine zn_iconst h 1 rfl rfl ?_
  refine zi_iload_n h rfl rfl ?_
  refine zi_ishl h rfl ?_
  refine zi_ior h rfl ?_
  refine zp_int h rfl (by first | rfl | assumption) (by decide) rfl ?_
  refine zi_aload_n h rfl rfl ?_
  show X 13 _ _ _ _
  refine zi_aload_n h rfl rfl ?_
  refine zn_iconst h 3 rfl rfl ?_
  refine zi_iload_n h rfl rfl ?_
  refine zn_iconst h 0 rfl rfl ?_
  refine zk_V h [_, _, _, _] rfl (by first | rfl | assumption) rfl rfl (Nat.le_of_ble_eq_true rfl) (s_sendIfPaired hq (by rw [tw_off (by omega)]; exact hn) (p_box_up (by omega) hb) ?_)
  refine zi_aload_n h rfl rfl ?_
  refine zg_ref h rfl (by first | rfl | assumption) (by decide) rfl rfl ?_
  refine zi_iload_n h rfl rfl ?_
  refine zk_V h [_] rfl (by first | rfl | assumption) rfl rfl (Nat.le_of_ble_eq_true rfl) (s_dbegin (tx_c17 hq) ?_)
  refine zn_iconst h 0 rfl rfl ?_
  refine zi_istore_n h rfl (Nat.le_of_ble_eq_true rfl) ?_
  exact loop 4 0 (by omega)
set_option maxRecDepth 20000 in
theorem s_beat {fl : Bool} {d : Nat} {f : tw_S} {P : tw_S → Option tw_A → Prop} {q : Nat} (hq : q = 17 ∨ q = 39) (hn : f q 0 = if q = 17 then 0 else 1) (hb : p_box f (56 - q)) (hP : P (p_beat f q) none) : tS fl (d + 4) 80 [tw_R 0, tw_R q] f P := by
  have lc := tx_ctl hq
  obtain ⟨a0, a1, a2, a3, a4⟩ := tx_ent (tx_c1 hq)
  obtain ⟨m0, m1, m2, m3, m4⟩ := tx_ent (tx_c6 hq)
  obtain ⟨i0, i1, i2, i3, i4, i5⟩ := tx_inb (tx_c11 hq)
  obtain ⟨d0, d1, d2, d3⟩ := tx_des (tx_c17 hq)
  have w0 := tx_dwr (tx_c21 hq)
  have e15 : p_sip f q 5 0 0 q 15 = f q 15 := p_sip_off hq (by omega)
  refine tw_Sp_of rfl rfl (Nat.le_of_ble_eq_true rfl) (fun X h => ?_)
  refine zi_aload_n h rfl rfl ?_
  refine zi_aload_n h rfl rfl ?_
  refine zn_iconst h 5 rfl rfl ?_
  refine zn_iconst h 0 rfl rfl ?_
  refine zn_iconst h 0 rfl rfl ?_
  refine zk_V h [_, _, _, _] rfl (by first | rfl | assumption) rfl rfl (Nat.le_of_ble_eq_true rfl) (s_sendIfPaired hq hn hb ?_)
  refine zi_aload_n h rfl rfl ?_
  refine zi_dup h rfl rfl ?_
  refine zg_int h rfl (by first | rfl | assumption) (by decide) rfl ?_
  refine zn_iconst h 1 rfl rfl ?_
  first | refine zn_iadd h rfl ?_ | refine zi_iadd h rfl ?_
  refine zp_int h rfl (by first | rfl | assumption) (by decide) rfl ?_
  refine zi_aload_n h rfl rfl ?_
  refine zg_int h rfl (by first | rfl | assumption) (by decide) rfl ?_
  refine zn_iconst h 4 rfl rfl ?_
  have e16 : tw_up (p_sip f q 5 0 0) q 15 (p_sip f q 5 0 0 q 15 + nI 1) q 15 = f q 15 + 1 := by rw [e15]; simp [tw_up, tw_n1]
  refine zc_icmplt h rfl (fun hc => ?_) (fun hc => ?_)
  · have hc : f q 15 + 1 < 4 := e16 ▸ hc
    rw [p_beat, if_pos hc, ← e15] at hP
    refine zi_vret h rfl ?_
    exact hP
  · have hc : ¬ f q 15 + 1 < 4 := e16 ▸ hc
    rw [p_beat, if_neg hc, ← e15] at hP
    refine zi_aload_n h rfl rfl ?_
    refine zn_iconst h 0 rfl rfl ?_
    refine zp_boo h rfl (by first | rfl | assumption) (by decide) rfl (by first | exact Or.inl rfl | exact Or.inr rfl | assumption) ?_
    refine zi_vret h rfl ?_
    exact hP
set_option maxRecDepth 20000 in
theorem s_doFirstWithoutWrites {fl : Bool} {d : Nat} {f : tw_S} {P : tw_S → Option tw_A → Prop} {q : Nat} {gn : Nat → Int32} (hq : q = 17 ∨ q = 39) (hn : f q 0 = if q = 17 then 0 else 1) (hb : p_box f (56 - q)) (hg : ∀ s, s < 8 → (gn s = 0 ↔ ¬ p_bit (f q 12 &&& (f q 14 ^^^ -1)) s)) (h6 : p_ft gn 8 0 < 8 → P (p_sip (tw_up f q 12 (f q 12 &&& (1 <<< (nI (p_ft gn 8 0) &&& 31) ^^^ -1))) q 4 (nI (p_ft gn 8 0)) 0) (some (tw_I 6))) (h7 : ¬ p_ft gn 8 0 < 8 → ¬ f q 9 = 0 → P (tw_up f q 9 0) (some (tw_I 7))) (h8 : ¬ p_ft gn 8 0 < 8 → f q 9 = 0 → ¬ f q 7 = 0 → P (p_beat f q) (some (tw_I 8))) (h9 : ¬ p_ft gn 8 0 < 8 → f q 9 = 0 → f q 7 = 0 → P f (some (tw_I 9))) : tS fl (d + 5) 81 [tw_R 0, tw_R q] f P := by
  have lc := tx_ctl hq
  obtain ⟨a0, a1, a2, a3, a4⟩ := tx_ent (tx_c1 hq)
  obtain ⟨m0, m1, m2, m3, m4⟩ := tx_ent (tx_c6 hq)
  obtain ⟨i0, i1, i2, i3, i4, i5⟩ := tx_inb (tx_c11 hq)
  obtain ⟨d0, d1, d2, d3⟩ := tx_des (tx_c17 hq)
  have w0 := tx_dwr (tx_c21 hq)
  refine tw_Sp_of rfl rfl (Nat.le_of_ble_eq_true rfl) (fun X h => ?_)
  refine zi_aload_n h rfl rfl ?_
  refine zg_int h rfl (by first | rfl | assumption) (by decide) rfl ?_
  refine zi_aload_n h rfl rfl ?_
  refine zg_int h rfl (by first | rfl | assumption) (by decide) rfl ?_
  refine zi_iconst h rfl ?_
  refine zi_ixor h rfl ?_
  refine zi_iand h rfl ?_
  refine zk_S h [_] rfl rfl rfl (Nat.le_of_ble_eq_true rfl) (s_lowestStripeIn hg (fun c1 => ?_) (fun c1 => ?_))
  · refine zi_istore_n h rfl (Nat.le_of_ble_eq_true rfl) ?_
    refine zi_iload_n h rfl rfl ?_
    refine zi_iconst h rfl ?_
    refine zc_icmpeq h rfl (fun hc => ?_) (fun hc => ?_)
    · exfalso
      have h9 : ¬ nI (p_ft gn 8 0) < 0 := nI_pos (by omega)
      rw [hc] at h9
      exact h9 (by decide)
    · refine zi_aload_n h rfl rfl ?_
      refine zi_dup h rfl rfl ?_
      refine zg_int h rfl (by first | rfl | assumption) (by decide) rfl ?_
      refine zn_iconst h 1 rfl rfl ?_
      refine zi_iload_n h rfl rfl ?_
      refine zi_ishl h rfl ?_
      refine zi_iconst h rfl ?_
      refine zi_ixor h rfl ?_
      refine zi_iand h rfl ?_
      refine zp_int h rfl (by first | rfl | assumption) (by decide) rfl ?_
      show X 22 _ _ _ _
      refine zi_aload_n h rfl rfl ?_
      refine zi_aload_n h rfl rfl ?_
      refine zn_iconst h 4 rfl rfl ?_
      refine zi_iload_n h rfl rfl ?_
      refine zn_iconst h 0 rfl rfl ?_
      refine zk_V h [_, _, _, _] rfl (by first | rfl | assumption) rfl rfl (Nat.le_of_ble_eq_true rfl) (s_sendIfPaired hq (by rw [tw_off (by omega)]; exact hn) (p_box_up (by omega) hb) ?_)
      refine zn_bipush h 6 rfl rfl ?_
      refine zi_iret h rfl ?_
      exact h6 c1
  · refine zi_istore_n h rfl (Nat.le_of_ble_eq_true rfl) ?_
    refine zi_iload_n h rfl rfl ?_
    refine zi_iconst h rfl ?_
    refine zc_icmpeq h rfl (fun hc => ?_) (fun hc => ?_)
    · refine zi_aload_n h rfl rfl ?_
      refine zg_boo h rfl (by first | rfl | assumption) (by decide) rfl ?_
      first | refine zb_ifeq h rfl (fun hc => ?_) (fun hc => ?_) | refine zc_ifeq h rfl (fun hc => ?_) (fun hc => ?_)
      · have c9 := hc
        refine zi_aload_n h rfl rfl ?_
        refine zg_boo h rfl (by first | rfl | assumption) (by decide) rfl ?_
        first | refine zb_ifeq h rfl (fun hc => ?_) (fun hc => ?_) | refine zc_ifeq h rfl (fun hc => ?_) (fun hc => ?_)
        · refine zn_bipush h 9 rfl rfl ?_
          refine zi_iret h rfl ?_
          exact h9 c1 c9 hc
        · refine zi_aload_n h rfl rfl ?_
          refine zi_aload_n h rfl rfl ?_
          refine zk_V h [_] rfl (by first | rfl | assumption) rfl rfl (Nat.le_of_ble_eq_true rfl) (s_beat hq hn hb ?_)
          refine zn_bipush h 8 rfl rfl ?_
          refine zi_iret h rfl ?_
          exact h8 c1 c9 hc
      · refine zi_aload_n h rfl rfl ?_
        refine zn_iconst h 0 rfl rfl ?_
        refine zp_boo h rfl (by first | rfl | assumption) (by decide) rfl (by first | exact Or.inl rfl | exact Or.inr rfl | assumption) ?_
        refine zn_bipush h 7 rfl rfl ?_
        refine zi_iret h rfl ?_
        exact h7 c1 hc
    · exact absurd rfl hc
set_option maxRecDepth 20000 in
theorem s_doFirst {fl : Bool} {d : Nat} {f : tw_S} {P : tw_S → Option tw_A → Prop} {q lm tm : Nat} {gr gn : Nat → Int32} (hq : q = 17 ∨ q = 39) (hn : f q 0 = if q = 17 then 0 else 1) (hb : p_box f (56 - q)) (hl : f 12 4 = nI lm) (hl2 : lm ≤ 20) (ht : f 6 5 = nI tm) (ht2 : tm ≤ 200)
    (hgr : ∀ s, s < 8 → (gr s = 0 ↔ ¬ p_bit (f q 14) s)) (hgn : ∀ s, s < 8 → (gn s = 0 ↔ ¬ p_bit (f q 12 &&& (f q 14 ^^^ -1)) s))
    (hw : ¬ f (q + 21) 0 = 0 → (∃ i s, f (q + 21) 1 = nI i ∧ i < 5 ∧ f (q + 21) 2 = nI s ∧ s < 8 ∧ (f 2 i = 0 → P (tw_up f (q + 21) 0 0) (some (tw_I 1))) ∧ (¬ f 2 i = 0 → f 3 i = f (q + 21) 4 → P (tw_up (tw_up (tw_up f (q + 21) 0 0) 4 (i * 8 + s) (f (q + 21) 3)) 5 (i * 8 + s) 0) (some (tw_I 1))) ∧ (¬ f 2 i = 0 → ¬ f 3 i = f (q + 21) 4 → P (p_down (tw_up f (q + 21) 0 0) q) (some (tw_I 1)))))
    (htk : f (q + 21) 0 = 0 → ¬ f q 8 = 0 → (∃ i n g, f q 17 = nI i ∧ i + n = 5 ∧ f q 16 = nI g ∧ (p_ft (f 2) n i < 5 → P (tw_up (tw_up (tw_up f 3 (p_ft (f 2) n i) (f q 10)) q 18 (f q 18 + 1)) q 17 (nI (p_ft (f 2) n i + 1))) (some (tw_I 2))) ∧ (¬ p_ft (f 2) n i < 5 → ¬ 4 ≤ f q 18 → P (p_down f q) (some (tw_I 2))) ∧ (¬ p_ft (f 2) n i < 5 → 4 ≤ f q 18 → P (fun c x => if c = q ∧ x = 12 then f q 12 ||| f q 13 else if c = q ∧ x = 14 then f q 14 ||| f q 13 else if c = q ∧ (x = 13 ∨ x = 8) then 0 else p_tk f q g 32 c x) (some (tw_I 2)))))
    (hr1 : f (q + 21) 0 = 0 → f q 8 = 0 → p_ft gr 8 0 < 8 → p_om (f 5) 5 (p_ft gr 8 0) 5 → P (tw_up f q 14 (f q 14 &&& (1 <<< (nI (p_ft gr 8 0) &&& 31) ^^^ -1))) (some (tw_I 3)))
    (hr2 : f (q + 21) 0 = 0 → f q 8 = 0 → p_ft gr 8 0 < 8 → ¬ p_om (f 5) 5 (p_ft gr 8 0) 5 → P (p_wr (tw_up f q 14 (f q 14 &&& (1 <<< (nI (p_ft gr 8 0) &&& 31) ^^^ -1))) q (nI (p_pd (p_ft gr 8 0))) (nI (p_ft gr 8 0)) (p_xor (f 4) (p_pd (p_ft gr 8 0)) (p_ft gr 8 0) 5) (f q 10)) (some (tw_I 3)))
    (hds : f (q + 21) 0 = 0 → f q 8 = 0 → ¬ p_ft gr 8 0 < 8 → ¬ f (q + 17) 3 = -1 → (∃ s i n, f (q + 17) 3 = nI s ∧ s < 8 ∧ f (q + 17) 4 = nI i ∧ i + n = 4 ∧ (p_ft (p_can f q s) n i < 4 → P (p_wr (tw_up f (q + 17) 4 (nI (p_ft (p_can f q s) n i + 1))) q (nI (p_dd s (p_ft (p_can f q s) n i))) (nI s) (f (q + 19) (p_ft (p_can f q s) n i)) (f q 10)) (some (tw_I 4))) ∧ (¬ p_ft (p_can f q s) n i < 4 → (f (q + 17) 6 = 0 ∧ f (q + 17) 5 = 0 ∧ ¬ f 2 (p_pd s) = 0) → P (p_wr (tw_up (tw_up f (q + 17) 4 (nI 4)) (q + 17) 6 1) q (nI (p_pd s)) (nI s) (p_x4 (f (q + 19)) 4) (f q 10)) (some (tw_I 4))) ∧ (¬ p_ft (p_can f q s) n i < 4 → ¬ (f (q + 17) 6 = 0 ∧ f (q + 17) 5 = 0 ∧ ¬ f 2 (p_pd s) = 0) → P (tw_up (p_fd (tw_up f (q + 17) 4 (nI 4)) q s 4) (q + 17) 3 (-1)) (some (tw_I 4)))))
    (hbd : f (q + 21) 0 = 0 → f q 8 = 0 → ¬ p_ft gr 8 0 < 8 → f (q + 17) 3 = -1 → (¬ f q 9 = 0 ∨ f q 7 = 0) → 0 < p_cd (f (q + 3)) 8 → P (p_bd f q (p_ds (f (q + 3)) 7) 4) (some (tw_I 5)))
    (h6 : f (q + 21) 0 = 0 → f q 8 = 0 → ¬ p_ft gr 8 0 < 8 → f (q + 17) 3 = -1 → ¬ ((¬ f q 9 = 0 ∨ f q 7 = 0) ∧ 0 < p_cd (f (q + 3)) 8) → p_ft gn 8 0 < 8 → P (p_sip (tw_up f q 12 (f q 12 &&& (1 <<< (nI (p_ft gn 8 0) &&& 31) ^^^ -1))) q 4 (nI (p_ft gn 8 0)) 0) (some (tw_I 6)))
    (h7 : f (q + 21) 0 = 0 → f q 8 = 0 → ¬ p_ft gr 8 0 < 8 → f (q + 17) 3 = -1 → ¬ ((¬ f q 9 = 0 ∨ f q 7 = 0) ∧ 0 < p_cd (f (q + 3)) 8) → ¬ p_ft gn 8 0 < 8 → ¬ f q 9 = 0 → P (tw_up f q 9 0) (some (tw_I 7)))
    (h8 : f (q + 21) 0 = 0 → f q 8 = 0 → ¬ p_ft gr 8 0 < 8 → f (q + 17) 3 = -1 → ¬ ((¬ f q 9 = 0 ∨ f q 7 = 0) ∧ 0 < p_cd (f (q + 3)) 8) → ¬ p_ft gn 8 0 < 8 → f q 9 = 0 → ¬ f q 7 = 0 → P (p_beat f q) (some (tw_I 8)))
    (h9 : f (q + 21) 0 = 0 → f q 8 = 0 → ¬ p_ft gr 8 0 < 8 → f (q + 17) 3 = -1 → ¬ ((¬ f q 9 = 0 ∨ f q 7 = 0) ∧ 0 < p_cd (f (q + 3)) 8) → ¬ p_ft gn 8 0 < 8 → f q 9 = 0 → f q 7 = 0 → P f (some (tw_I 9))) : tS fl (d + 7) 82 [tw_R 0, tw_R q] f P := by
  have lc := tx_ctl hq
  obtain ⟨a0, a1, a2, a3, a4⟩ := tx_ent (tx_c1 hq)
  obtain ⟨m0, m1, m2, m3, m4⟩ := tx_ent (tx_c6 hq)
  obtain ⟨i0, i1, i2, i3, i4, i5⟩ := tx_inb (tx_c11 hq)
  obtain ⟨d0, d1, d2, d3⟩ := tx_des (tx_c17 hq)
  have w0 := tx_dwr (tx_c21 hq)
  have hcd := p_cd_le (f (q + 3)) 8
  refine tw_Sp_of rfl rfl (Nat.le_of_ble_eq_true rfl) (fun X h => ?_)
  refine zi_aload_n h rfl rfl ?_
  refine zg_ref h rfl (by first | rfl | assumption) (by decide) rfl rfl ?_
  refine zg_boo h rfl (by first | rfl | assumption) (by decide) rfl ?_
  first | refine zb_ifeq h rfl (fun hc => ?_) (fun hc => ?_) | refine zc_ifeq h rfl (fun hc => ?_) (fun hc => ?_)
  · have c0 := hc
    refine zi_aload_n h rfl rfl ?_
    refine zg_boo h rfl (by first | rfl | assumption) (by decide) rfl ?_
    first | refine zb_ifeq h rfl (fun hc => ?_) (fun hc => ?_) | refine zc_ifeq h rfl (fun hc => ?_) (fun hc => ?_)
    · have c8 := hc
      refine zi_aload_n h rfl rfl ?_
      refine zg_int h rfl (by first | rfl | assumption) (by decide) rfl ?_
      refine zk_S h [_] rfl rfl rfl (Nat.le_of_ble_eq_true rfl) (s_lowestStripeIn hgr (fun c1 => ?_) (fun c1 => ?_))
      · refine zi_iconst h rfl ?_
        refine zc_icmpeq h rfl (fun hc => ?_) (fun hc => ?_)
        · exfalso
          have h9 : ¬ nI (p_ft gr 8 0) < 0 := nI_pos (by omega)
          rw [hc] at h9
          exact h9 (by decide)
        · refine zi_aload_n h rfl rfl ?_
          refine zi_aload_n h rfl rfl ?_
          refine zi_aload_n h rfl rfl ?_
          refine zg_int h rfl (by first | rfl | assumption) (by decide) rfl ?_
          refine zk_S h [_] rfl rfl rfl (Nat.le_of_ble_eq_true rfl) (s_lowestStripeIn hgr (fun c1 => ?_) (fun c2 => absurd c1 c2))
          refine zk_V h [_, _] rfl (by first | rfl | assumption) rfl rfl (Nat.le_of_ble_eq_true rfl) (s_repair hq c1 (fun c2 => ?_) (fun c2 => ?_))
          · refine zn_iconst h 3 rfl rfl ?_
            refine zi_iret h rfl ?_
            exact hr1 c0 c8 c1 c2
          · refine zn_iconst h 3 rfl rfl ?_
            refine zi_iret h rfl ?_
            exact hr2 c0 c8 c1 c2
      · refine zi_iconst h rfl ?_
        refine zc_icmpeq h rfl (fun hc => ?_) (fun hc => ?_)
        · refine zi_aload_n h rfl rfl ?_
          refine zg_ref h rfl (by first | rfl | assumption) (by decide) rfl rfl ?_
          refine zg_int h rfl (by first | rfl | assumption) (by decide) rfl ?_
          refine zi_iconst h rfl ?_
          refine zc_icmpeq h rfl (fun hc => ?_) (fun hc => ?_)
          · have c3 := hc
            have rest : ¬ ((¬ f q 9 = 0 ∨ f q 7 = 0) ∧ 0 < p_cd (f (q + 3)) 8) → X 55 [some (tw_R 0), some (tw_R q)] [] tx_L0 f := by
              intro cn
              refine zi_aload_n h rfl rfl ?_
              refine zi_aload_n h rfl rfl ?_
              refine zk_V h [_] rfl (by first | rfl | assumption) rfl rfl (Nat.le_of_ble_eq_true rfl) (s_doFirstWithoutWrites hq hn hb hgn (fun g1 => ?_) (fun g1 g2 => ?_) (fun g1 g2 g3 => ?_) (fun g1 g2 g3 => ?_))
              · refine zi_iret h rfl ?_
                exact h6 c0 c8 c1 c3 cn g1
              · refine zi_iret h rfl ?_
                exact h7 c0 c8 c1 c3 cn g1 g2
              · refine zi_iret h rfl ?_
                exact h8 c0 c8 c1 c3 cn g1 g2 g3
              · refine zi_iret h rfl ?_
                exact h9 c0 c8 c1 c3 cn g1 g2 g3
            have flush : (¬ f q 9 = 0 ∨ f q 7 = 0) → X 46 [some (tw_R 0), some (tw_R q)] [] tx_L0 f := by
              intro cf
              refine zi_aload_n h rfl rfl ?_
              refine zg_ref h rfl (by first | rfl | assumption) (by decide) rfl rfl ?_
              refine zk_V h [] rfl (by first | rfl | assumption) rfl rfl (Nat.le_of_ble_eq_true rfl) (s_countDirty (tx_c1 hq) ?_)
              refine zc_ifle h rfl (fun hc => ?_) (fun hc => ?_)
              · have c4 : p_cd (f (q + 3)) 8 ≤ 0 := (nI_leI (a := p_cd (f (q + 3)) 8) (b := 0) (by omega) (by omega)).mp hc
                exact rest (fun u => by omega)
              · have c4 : ¬ p_cd (f (q + 3)) 8 ≤ 0 := fun g => hc ((nI_leI (a := p_cd (f (q + 3)) 8) (b := 0) (by omega) (by omega)).mpr g)
                refine zi_aload_n h rfl rfl ?_
                refine zi_aload_n h rfl rfl ?_
                refine zk_V h [_] rfl (by first | rfl | assumption) rfl rfl (Nat.le_of_ble_eq_true rfl) (s_beginDestaging hq hn hb ?_)
                refine zn_iconst h 5 rfl rfl ?_
                refine zi_iret h rfl ?_
                exact hbd c0 c8 c1 c3 cf (by omega)
            refine zi_aload_n h rfl rfl ?_
            refine zg_boo h rfl (by first | rfl | assumption) (by decide) rfl ?_
            first | refine zb_ifne h rfl (fun hc => ?_) (fun hc => ?_) | refine zc_ifne h rfl (fun hc => ?_) (fun hc => ?_)
            · exact flush (Or.inl hc)
            · have c9 := hc
              refine zi_aload_n h rfl rfl ?_
              refine zg_boo h rfl (by first | rfl | assumption) (by decide) rfl ?_
              first | refine zb_ifne h rfl (fun hc => ?_) (fun hc => ?_) | refine zc_ifne h rfl (fun hc => ?_) (fun hc => ?_)
              · exact rest (fun u => u.1.elim (fun v => v c9) hc)
              · exact flush (Or.inr hc)
          · obtain ⟨s, i, n, k1, k2, k3, k4, k5, k6, k7⟩ := hds c0 c8 c1 hc
            refine zi_aload_n h rfl rfl ?_
            refine zi_aload_n h rfl rfl ?_
            refine zk_V h [_] rfl (by first | rfl | assumption) rfl rfl (Nat.le_of_ble_eq_true rfl) (s_goOnDestaging hq hn hb ht ht2 k1 k2 k3 k4 (fun g1 => ?_) (fun g1 g2 => ?_) (fun g1 g2 => ?_))
            · refine zn_iconst h 4 rfl rfl ?_
              refine zi_iret h rfl ?_
              exact k5 g1
            · refine zn_iconst h 4 rfl rfl ?_
              refine zi_iret h rfl ?_
              exact k6 g1 g2
            · refine zn_iconst h 4 rfl rfl ?_
              refine zi_iret h rfl ?_
              exact k7 g1 g2
        · exact absurd rfl hc
    · obtain ⟨i, n, g, k1, k2, k3, k4, k5, k6⟩ := htk c0 hc
      refine zi_aload_n h rfl rfl ?_
      refine zi_aload_n h rfl rfl ?_
      refine zk_V h [_] rfl (by first | rfl | assumption) rfl rfl (Nat.le_of_ble_eq_true rfl) (s_goOnTakingOver hq hl hl2 ht ht2 k1 k2 k3 (fun g1 => ?_) (fun g1 g2 => ?_) (fun g1 g2 => ?_))
      · refine zn_iconst h 2 rfl rfl ?_
        refine zi_iret h rfl ?_
        exact k4 g1
      · refine zn_iconst h 2 rfl rfl ?_
        refine zi_iret h rfl ?_
        exact k5 g1 g2
      · refine zn_iconst h 2 rfl rfl ?_
        refine zi_iret h rfl ?_
        exact k6 g1 g2
  · obtain ⟨i, s, k1, k2, k3, k4, k5, k6, k7⟩ := hw hc
    refine zi_aload_n h rfl rfl ?_
    refine zi_aload_n h rfl rfl ?_
    refine zk_V h [_] rfl (by first | rfl | assumption) rfl rfl (Nat.le_of_ble_eq_true rfl) (s_land hq hl hl2 ht ht2 k1 k2 k3 k4 (fun g1 => ?_) (fun g1 g2 => ?_) (fun g1 g2 => ?_))
    · refine zn_iconst h 1 rfl rfl ?_
      refine zi_iret h rfl ?_
      exact k5 g1
    · refine zn_iconst h 1 rfl rfl ?_
      refine zi_iret h rfl ?_
      exact k6 g1 g2
    · refine zn_iconst h 1 rfl rfl ?_
      refine zi_iret h rfl ?_
      exact k7 g1 g2
