/-! TwinArray's own: who is who, messages, going down. -/
set_option maxRecDepth 20000 in
theorem s_numbered {fl : Bool} {d : Nat} {f : tw_S} {P : tw_S → Option tw_A → Prop} {c : Nat} (hc : c < 2) (hP : P f (some (tw_R (17 + 22 * c)))) : tS fl (d + 1) 64 [tw_R 0, tw_I (nI c)] f P := by
  refine tw_Sp_of rfl rfl (Nat.le_of_ble_eq_true rfl) (fun X h => ?_)
  rcases (show c = 0 ∨ c = 1 by omega) with rfl | rfl
  · refine zi_iload_n h rfl rfl ?_
    first | refine zb_ifne h rfl (fun hc => ?_) (fun hc => ?_) | refine zc_ifne h rfl (fun hc => ?_) (fun hc => ?_)
    · exact absurd rfl hc
    · refine zi_aload_n h rfl rfl ?_
      refine zg_ref h rfl (by first | rfl | assumption) (by decide) rfl rfl ?_
      refine zi_goto h rfl ?_
      refine zi_aret h rfl ?_
      exact hP
  · refine zi_iload_n h rfl rfl ?_
    first | refine zb_ifne h rfl (fun hc => ?_) (fun hc => ?_) | refine zc_ifne h rfl (fun hc => ?_) (fun hc => ?_)
    · refine zi_aload_n h rfl rfl ?_
      refine zg_ref h rfl (by first | rfl | assumption) (by decide) rfl rfl ?_
      refine zi_aret h rfl ?_
      exact hP
    · exact absurd hc (by decide)
set_option maxRecDepth 20000 in
theorem s_partnerOf {fl : Bool} {d : Nat} {f : tw_S} {P : tw_S → Option tw_A → Prop} {q : Nat} (hq : q = 17 ∨ q = 39) (hn : f q 0 = if q = 17 then 0 else 1) (hP : P f (some (tw_R (56 - q)))) : tS fl (d + 1) 65 [tw_R 0, tw_R q] f P := by
  have lc := tx_ctl hq
  refine tw_Sp_of rfl rfl (Nat.le_of_ble_eq_true rfl) (fun X h => ?_)
  refine zi_aload_n h rfl rfl ?_
  refine zg_int h rfl (by first | rfl | assumption) (by decide) rfl ?_
  rw [hn]
  rcases hq with rfl | rfl
  · refine zc_ifne h rfl (fun hc => ?_) (fun hc => ?_)
    · exact absurd rfl hc
    · refine zi_aload_n h rfl rfl ?_
      refine zg_ref h rfl (by first | rfl | assumption) (by decide) rfl rfl ?_
      refine zi_goto h rfl ?_
      refine zi_aret h rfl ?_
      exact hP
  · refine zc_ifne h rfl (fun hc => ?_) (fun hc => ?_)
    · refine zi_aload_n h rfl rfl ?_
      refine zg_ref h rfl (by first | rfl | assumption) (by decide) rfl rfl ?_
      refine zi_aret h rfl ?_
      exact hP
    · exact absurd hc (by decide)
set_option maxRecDepth 20000 in
theorem s_send {fl : Bool} {d : Nat} {f : tw_S} {P : tw_S → Option tw_A → Prop} {q : Nat} {k p v w t : Int32} (hq : q = 17 ∨ q = 39) (hb : p_box f q) (hP : P (p_send f q k p v w t) none) : tS fl (d + 2) 66 [tw_R 0, tw_R q, tw_I k, tw_I p, tw_I v, tw_I w, tw_I t] f P := by
  have lc := tx_ctl hq
  obtain ⟨a0, a1, a2, a3, a4⟩ := tx_ent (tx_c1 hq)
  obtain ⟨m0, m1, m2, m3, m4⟩ := tx_ent (tx_c6 hq)
  obtain ⟨i0, i1, i2, i3, i4, i5⟩ := tx_inb (tx_c11 hq)
  obtain ⟨d0, d1, d2, d3⟩ := tx_des (tx_c17 hq)
  have w0 := tx_dwr (tx_c21 hq)
  obtain ⟨a, m, ha, ha2, hm, hm2⟩ := hb
  have ea : (f (q + 11) 5).toNatClampNeg = a := by rw [ha]; exact nI_clamp (by omega)
  have em : (f (q + 11) 6).toNatClampNeg = m := by rw [hm]; exact nI_clamp (by omega)
  refine tw_Sp_of rfl rfl (Nat.le_of_ble_eq_true rfl) (fun X h => ?_)
  refine zi_aload_n h rfl rfl ?_
  refine zg_boo h rfl (by first | rfl | assumption) (by decide) rfl ?_
  first | refine zb_ifne h rfl (fun hc => ?_) (fun hc => ?_) | refine zc_ifne h rfl (fun hc => ?_) (fun hc => ?_)
  · refine zi_vret h rfl ?_
    rw [p_send, if_neg (fun g => hc g.1)] at hP
    exact hP
  · refine zi_aload_n h rfl rfl ?_
    refine zg_ref h rfl (by first | rfl | assumption) (by decide) rfl rfl ?_
    refine zi_iload_n h rfl rfl ?_
    refine zi_iload_n h rfl rfl ?_
    refine zi_iload h rfl rfl ?_
    refine zi_iload h rfl rfl ?_
    refine zi_iload h rfl rfl ?_
    refine zk_V h [_, _, _, _, _] rfl (by first | rfl | assumption) rfl rfl (Nat.le_of_ble_eq_true rfl) (s_iadd_box (tx_c11 hq) ha ha2 hm hm2 (fun g => ?_) (fun g => ?_))
    · refine zi_vret h rfl ?_
      rw [p_send, if_pos ⟨hc, by omega⟩, p_sl, ea, em, hm, nI_1] at hP
      exact hP
    · refine zi_vret h rfl ?_
      rw [p_send, if_neg (fun u => by omega)] at hP
      exact hP
set_option maxRecDepth 20000 in
theorem s_sendIfPaired {fl : Bool} {d : Nat} {f : tw_S} {P : tw_S → Option tw_A → Prop} {q : Nat} {k p w : Int32} (hq : q = 17 ∨ q = 39) (hn : f q 0 = if q = 17 then 0 else 1) (hb : p_box f (56 - q)) (hP : P (p_sip f q k p w) none) : tS fl (d + 3) 74 [tw_R 0, tw_R q, tw_I k, tw_I p, tw_I w] f P := by
  have lc := tx_ctl hq
  obtain ⟨a0, a1, a2, a3, a4⟩ := tx_ent (tx_c1 hq)
  obtain ⟨m0, m1, m2, m3, m4⟩ := tx_ent (tx_c6 hq)
  obtain ⟨i0, i1, i2, i3, i4, i5⟩ := tx_inb (tx_c11 hq)
  obtain ⟨d0, d1, d2, d3⟩ := tx_des (tx_c17 hq)
  have w0 := tx_dwr (tx_c21 hq)
  have hq2 : 56 - q = 17 ∨ 56 - q = 39 := by omega
  refine tw_Sp_of rfl rfl (Nat.le_of_ble_eq_true rfl) (fun X h => ?_)
  refine zi_aload_n h rfl rfl ?_
  refine zg_boo h rfl (by first | rfl | assumption) (by decide) rfl ?_
  first | refine zb_ifeq h rfl (fun hc => ?_) (fun hc => ?_) | refine zc_ifeq h rfl (fun hc => ?_) (fun hc => ?_)
  · refine zi_vret h rfl ?_
    rw [p_sip, if_pos hc] at hP
    exact hP
  · refine zi_aload_n h rfl rfl ?_
    refine zi_aload_n h rfl rfl ?_
    refine zi_aload_n h rfl rfl ?_
    refine zk_V h [_] rfl (by first | rfl | assumption) rfl rfl (Nat.le_of_ble_eq_true rfl) (s_partnerOf hq hn ?_)
    refine zi_iload_n h rfl rfl ?_
    refine zi_iload_n h rfl rfl ?_
    refine zn_iconst h 0 rfl rfl ?_
    refine zi_iload h rfl rfl ?_
    refine zi_iconst h rfl ?_
    refine zk_V h [_, _, _, _, _, _] rfl (by first | rfl | assumption) rfl rfl (Nat.le_of_ble_eq_true rfl) (s_send hq2 hb ?_)
    refine zi_vret h rfl ?_
    rw [p_sip, if_neg hc] at hP
    exact hP
set_option maxRecDepth 20000 in
theorem s_goDown {fl : Bool} {d : Nat} {f : tw_S} {P : tw_S → Option tw_A → Prop} {q lm tm : Nat} (hq : q = 17 ∨ q = 39) (hl : f 12 4 = nI lm) (hl2 : lm ≤ 20) (ht : f 6 5 = nI tm) (ht2 : tm ≤ 200) (hP : P (p_down f q) none) : tS fl (d + 4) 68 [tw_R 0, tw_R q] f P := by
  have lc := tx_ctl hq
  obtain ⟨a0, a1, a2, a3, a4⟩ := tx_ent (tx_c1 hq)
  obtain ⟨m0, m1, m2, m3, m4⟩ := tx_ent (tx_c6 hq)
  obtain ⟨i0, i1, i2, i3, i4, i5⟩ := tx_inb (tx_c11 hq)
  obtain ⟨d0, d1, d2, d3⟩ := tx_des (tx_c17 hq)
  have w0 := tx_dwr (tx_c21 hq)
  have el : (f 12 4).toNatClampNeg = lm := by rw [hl]; exact nI_clamp (by omega)
  refine tw_Sp_of rfl rfl (Nat.le_of_ble_eq_true rfl) (fun X h => ?_)
  refine zi_aload_n h rfl rfl ?_
  refine zg_ref h rfl (by first | rfl | assumption) (by decide) rfl rfl ?_
  refine zg_boo h rfl (by first | rfl | assumption) (by decide) rfl ?_
  first | refine zb_ifeq h rfl (fun hc => ?_) (fun hc => ?_) | refine zc_ifeq h rfl (fun hc => ?_) (fun hc => ?_)
  · rw [p_down_eq (g := f) (by rw [p_late, if_pos (Or.inl hc)]) ht ht2 rfl] at hP
    refine zi_aload_n h rfl rfl ?_
    refine zg_ref h rfl (by first | rfl | assumption) (by decide) rfl rfl ?_
    refine zi_aload_n h rfl rfl ?_
    refine zg_int h rfl (by first | rfl | assumption) (by decide) rfl ?_
    refine zk_V h [_] rfl (by first | rfl | assumption) rfl rfl (Nat.le_of_ble_eq_true rfl) (s_refuseOpen ht ht2 ?_)
    refine zi_aload_n h rfl rfl ?_
    refine zk_V h [] rfl (by first | rfl | assumption) rfl rfl (Nat.le_of_ble_eq_true rfl) (s_forget hq ?_)
    refine zi_vret h rfl ?_
    exact hP
  · refine zi_aload_n h rfl rfl ?_
    refine zg_ref h rfl (by first | rfl | assumption) (by decide) rfl rfl ?_
    refine zi_aload_n h rfl rfl ?_
    refine zg_ref h rfl (by first | rfl | assumption) (by decide) rfl rfl ?_
    refine zk_V h [_] rfl (by first | rfl | assumption) rfl rfl (Nat.le_of_ble_eq_true rfl) (s_ladd (tx_c21 hq) hl hl2 (fun g => ?_) (fun g => ?_))
    · rw [p_down_eq (g := tw_up (tw_up (tw_up (tw_up (tw_up f 13 lm (f (q + 21) 1)) 14 lm (f (q + 21) 2)) 15 lm (f (q + 21) 3)) 16 lm (f (q + 21) 4)) 12 4 (nI (lm + 1))) (by rw [p_late, if_neg (fun u => u.elim hc (fun u => u (by omega))), el, hl, nI_1]) (by rw [← ht]; simp [tw_up]) ht2 (by rcases hq with rfl | rfl <;> simp [tw_up])] at hP
      refine zi_aload_n h rfl rfl ?_
      refine zg_ref h rfl (by first | rfl | assumption) (by decide) rfl rfl ?_
      refine zi_aload_n h rfl rfl ?_
      refine zg_int h rfl (by first | rfl | assumption) (by decide) rfl ?_
      refine zk_V h [_] rfl (by first | rfl | assumption) rfl rfl (Nat.le_of_ble_eq_true rfl) (s_refuseOpen (by rw [← ht]; simp [tw_up]) ht2 ?_)
      refine zi_aload_n h rfl rfl ?_
      refine zk_V h [] rfl (by first | rfl | assumption) rfl rfl (Nat.le_of_ble_eq_true rfl) (s_forget hq ?_)
      refine zi_vret h rfl ?_
      exact hP
    · rw [p_down_eq (g := f) (by rw [p_late, if_pos (Or.inr (by omega))]) ht ht2 rfl] at hP
      refine zi_aload_n h rfl rfl ?_
      refine zg_ref h rfl (by first | rfl | assumption) (by decide) rfl rfl ?_
      refine zi_aload_n h rfl rfl ?_
      refine zg_int h rfl (by first | rfl | assumption) (by decide) rfl ?_
      refine zk_V h [_] rfl (by first | rfl | assumption) rfl rfl (Nat.le_of_ble_eq_true rfl) (s_refuseOpen ht ht2 ?_)
      refine zi_aload_n h rfl rfl ?_
      refine zk_V h [] rfl (by first | rfl | assumption) rfl rfl (Nat.le_of_ble_eq_true rfl) (s_forget hq ?_)
      refine zi_vret h rfl ?_
      exact hP
set_option maxRecDepth 20000 in
theorem s_land {fl : Bool} {d : Nat} {f : tw_S} {P : tw_S → Option tw_A → Prop} {q lm tm i s : Nat} (hq : q = 17 ∨ q = 39) (hl : f 12 4 = nI lm) (hl2 : lm ≤ 20) (ht : f 6 5 = nI tm) (ht2 : tm ≤ 200) (hi : f (q + 21) 1 = nI i) (hi2 : i < 5) (hs : f (q + 21) 2 = nI s) (hs2 : s < 8) (h1 : f 2 i = 0 → P (tw_up f (q + 21) 0 0) none) (h2 : ¬ f 2 i = 0 → f 3 i = f (q + 21) 4 → P (tw_up (tw_up (tw_up f (q + 21) 0 0) 4 (i * 8 + s) (f (q + 21) 3)) 5 (i * 8 + s) 0) none) (h3 : ¬ f 2 i = 0 → ¬ f 3 i = f (q + 21) 4 → P (p_down (tw_up f (q + 21) 0 0) q) none) : tS fl (d + 5) 70 [tw_R 0, tw_R q] f P := by
  have lc := tx_ctl hq
  obtain ⟨a0, a1, a2, a3, a4⟩ := tx_ent (tx_c1 hq)
  obtain ⟨m0, m1, m2, m3, m4⟩ := tx_ent (tx_c6 hq)
  obtain ⟨i0, i1, i2, i3, i4, i5⟩ := tx_inb (tx_c11 hq)
  obtain ⟨d0, d1, d2, d3⟩ := tx_des (tx_c17 hq)
  have w0 := tx_dwr (tx_c21 hq)
  have e2 : tw_up f (q + 21) 0 0 2 i = f 2 i := tw_off (by omega)
  have e3 : tw_up f (q + 21) 0 0 3 i = f 3 i := tw_off (by omega)
  have e4 : tw_up f (q + 21) 0 0 (q + 21) 4 = f (q + 21) 4 := tw_off (by omega)
  have e5 : tw_up f (q + 21) 0 0 (q + 21) 3 = f (q + 21) 3 := tw_off (by omega)
  refine tw_Sp_of rfl rfl (Nat.le_of_ble_eq_true rfl) (fun X h => ?_)
  refine zi_aload_n h rfl rfl ?_
  refine zg_ref h rfl (by first | rfl | assumption) (by decide) rfl rfl ?_
  refine zi_astore_n h rfl (Nat.le_of_ble_eq_true rfl) ?_
  refine zi_aload_n h rfl rfl ?_
  refine zn_iconst h 0 rfl rfl ?_
  refine zp_boo h rfl (by first | rfl | assumption) (by decide) rfl (by first | exact Or.inl rfl | exact Or.inr rfl | assumption) ?_
  refine zi_aload_n h rfl rfl ?_
  refine zg_ref h rfl (by first | rfl | assumption) (by decide) rfl rfl ?_
  refine zg_ref h rfl (by first | rfl | assumption) (by decide) rfl rfl ?_
  refine zi_aload_n h rfl rfl ?_
  refine zg_nat h i rfl (by first | rfl | assumption) (by decide) rfl (by rw [tw_off (by omega)]; exact hi) ?_
  refine za_z h rfl (by first | rfl | assumption) rfl (by omega) (by decide) ?_
  first | refine zb_ifne h rfl (fun hc => ?_) (fun hc => ?_) | refine zc_ifne h rfl (fun hc => ?_) (fun hc => ?_)
  · have c1 : ¬ f 2 i = 0 := fun g => hc (e2.trans g)
    refine zi_aload_n h rfl rfl ?_
    refine zg_ref h rfl (by first | rfl | assumption) (by decide) rfl rfl ?_
    refine zg_ref h rfl (by first | rfl | assumption) (by decide) rfl rfl ?_
    refine zi_aload_n h rfl rfl ?_
    refine zg_nat h i rfl (by first | rfl | assumption) (by decide) rfl (by rw [tw_off (by omega)]; exact hi) ?_
    refine za_i h rfl (by first | rfl | assumption) rfl (by omega) (by decide) ?_
    refine zi_aload_n h rfl rfl ?_
    refine zg_int h rfl (by first | rfl | assumption) (by decide) rfl ?_
    refine zc_icmpne h rfl (fun hc => ?_) (fun hc => ?_)
    · refine zi_aload_n h rfl rfl ?_
      refine zi_aload_n h rfl rfl ?_
      refine zk_V h [_] rfl (by first | rfl | assumption) rfl rfl (Nat.le_of_ble_eq_true rfl) (s_goDown hq (by rw [tw_off (by omega)]; exact hl) hl2 (by rw [tw_off (by omega)]; exact ht) ht2 ?_)
      refine zi_vret h rfl ?_
      exact h3 c1 (fun g => hc (e3.trans (g.trans e4.symm)))
    · refine zi_aload_n h rfl rfl ?_
      refine zg_ref h rfl (by first | rfl | assumption) (by decide) rfl rfl ?_
      refine zi_aload_n h rfl rfl ?_
      refine zg_nat h i rfl (by first | rfl | assumption) (by decide) rfl (by rw [tw_off (by omega)]; exact hi) ?_
      refine zi_aload_n h rfl rfl ?_
      refine zg_nat h s rfl (by first | rfl | assumption) (by decide) rfl (by rw [tw_off (by omega)]; exact hs) ?_
      refine zi_aload_n h rfl rfl ?_
      refine zg_int h rfl (by first | rfl | assumption) (by decide) rfl ?_
      refine zk_V h [_, _, _] rfl (by first | rfl | assumption) rfl rfl (Nat.le_of_ble_eq_true rfl) (s_put hi2 hs2 ?_)
      refine zi_goto h rfl ?_
      refine zi_vret h rfl ?_
      have h2 := h2 c1 (e3.symm.trans (hc.trans e4))
      rw [← e5] at h2
      exact h2
  · refine zi_vret h rfl ?_
    exact h1 (e2.symm.trans hc)
set_option maxRecDepth 20000 in
theorem s_goOnTakingOver {fl : Bool} {d : Nat} {f : tw_S} {P : tw_S → Option tw_A → Prop} {q lm tm i n g : Nat} (hq : q = 17 ∨ q = 39) (hl : f 12 4 = nI lm) (hl2 : lm ≤ 20) (ht : f 6 5 = nI tm) (ht2 : tm ≤ 200) (hi : f q 17 = nI i) (hn : i + n = 5) (hg : f q 16 = nI g) (h1 : p_ft (f 2) n i < 5 → P (tw_up (tw_up (tw_up f 3 (p_ft (f 2) n i) (f q 10)) q 18 (f q 18 + 1)) q 17 (nI (p_ft (f 2) n i + 1))) none) (h2 : ¬ p_ft (f 2) n i < 5 → ¬ 4 ≤ f q 18 → P (p_down f q) none) (h3 : ¬ p_ft (f 2) n i < 5 → 4 ≤ f q 18 → P (fun c x => if c = q ∧ x = 12 then f q 12 ||| f q 13 else if c = q ∧ x = 14 then f q 14 ||| f q 13 else if c = q ∧ (x = 13 ∨ x = 8) then 0 else p_tk f q g 32 c x) none) : tS fl (d + 5) 71 [tw_R 0, tw_R q] f P := by
  have lc := tx_ctl hq
  obtain ⟨a0, a1, a2, a3, a4⟩ := tx_ent (tx_c1 hq)
  obtain ⟨m0, m1, m2, m3, m4⟩ := tx_ent (tx_c6 hq)
  obtain ⟨i0, i1, i2, i3, i4, i5⟩ := tx_inb (tx_c11 hq)
  obtain ⟨d0, d1, d2, d3⟩ := tx_des (tx_c17 hq)
  have w0 := tx_dwr (tx_c21 hq)
  have lt := (p_ft_le (f 2) n i).2
  refine tw_Sp_of rfl rfl (Nat.le_of_ble_eq_true rfl) (fun X h => ?_)
  refine zi_aload_n h rfl rfl ?_
  refine zg_ref h rfl (by first | rfl | assumption) (by decide) rfl rfl ?_
  refine zi_aload_n h rfl rfl ?_
  refine zg_nat h i rfl (by first | rfl | assumption) (by decide) rfl hi ?_
  refine zk_V h [_] rfl (by first | rfl | assumption) rfl rfl (Nat.le_of_ble_eq_true rfl) (s_firstThereFrom hn (fun c1 => ?_) (fun c1 => ?_))
  · have e1 : tw_up f 3 (p_ft (f 2) n i) (f q 10) q 18 = f q 18 := tw_off (by omega)
    refine zi_istore_n h rfl (Nat.le_of_ble_eq_true rfl) ?_
    refine zi_iload_n h rfl rfl ?_
    refine zi_iconst h rfl ?_
    refine zc_icmpeq h rfl (fun hc => ?_) (fun hc => ?_)
    · exfalso
      have h9 : ¬ nI (p_ft (f 2) n i) < 0 := nI_pos (by omega)
      rw [hc] at h9
      exact h9 (by decide)
    · refine zi_aload_n h rfl rfl ?_
      refine zg_ref h rfl (by first | rfl | assumption) (by decide) rfl rfl ?_
      refine zg_ref h rfl (by first | rfl | assumption) (by decide) rfl rfl ?_
      refine zi_iload_n h rfl rfl ?_
      refine zi_aload_n h rfl rfl ?_
      refine zg_int h rfl (by first | rfl | assumption) (by decide) rfl ?_
      refine zs_i h rfl (by first | rfl | assumption) rfl (by omega) (by decide) ?_
      refine zi_aload_n h rfl rfl ?_
      refine zi_dup h rfl rfl ?_
      refine zg_int h rfl (by first | rfl | assumption) (by decide) rfl ?_
      show X 19 _ _ _ _
      refine zn_iconst h 1 rfl rfl ?_
      first | refine zn_iadd h rfl ?_ | refine zi_iadd h rfl ?_
      refine zp_int h rfl (by first | rfl | assumption) (by decide) rfl ?_
      refine zi_aload_n h rfl rfl ?_
      refine zi_iload_n h rfl rfl ?_
      refine zn_iconst h 1 rfl rfl ?_
      first | refine zn_iadd h rfl ?_ | refine zi_iadd h rfl ?_
      refine zp_int h rfl (by first | rfl | assumption) (by decide) rfl ?_
      refine zi_goto h rfl ?_
      have h1 := h1 c1
      rw [← e1] at h1
      refine zi_vret h rfl ?_
      exact h1
  · refine zi_istore_n h rfl (Nat.le_of_ble_eq_true rfl) ?_
    refine zi_iload_n h rfl rfl ?_
    refine zi_iconst h rfl ?_
    refine zc_icmpeq h rfl (fun hc => ?_) (fun hc => ?_)
    · refine zi_aload_n h rfl rfl ?_
      refine zg_int h rfl (by first | rfl | assumption) (by decide) rfl ?_
      refine zn_iconst h 4 rfl rfl ?_
      refine zc_icmpge h rfl (fun hc => ?_) (fun hc => ?_)
      · refine zi_aload_n h rfl rfl ?_
        refine zk_V h [] rfl (by first | rfl | assumption) rfl rfl (Nat.le_of_ble_eq_true rfl) (s_finishTakingOver hq hg ?_)
        refine zi_vret h rfl ?_
        exact h3 c1 hc
      · refine zi_aload_n h rfl rfl ?_
        refine zi_aload_n h rfl rfl ?_
        refine zk_V h [_] rfl (by first | rfl | assumption) rfl rfl (Nat.le_of_ble_eq_true rfl) (s_goDown hq hl hl2 ht ht2 ?_)
        refine zi_goto h rfl ?_
        refine zi_vret h rfl ?_
        exact h2 c1 hc
    · exact absurd rfl hc
set_option maxRecDepth 20000 in
theorem s_repair {fl : Bool} {d : Nat} {f : tw_S} {P : tw_S → Option tw_A → Prop} {q s : Nat} (hq : q = 17 ∨ q = 39) (hs : s < 8) (h1 : p_om (f 5) 5 s 5 → P (tw_up f q 14 (f q 14 &&& (1 <<< (nI s &&& 31) ^^^ -1))) none) (h2 : ¬ p_om (f 5) 5 s 5 → P (tw_up (tw_up (tw_up (tw_up (tw_up (tw_up f q 14 (f q 14 &&& (1 <<< (nI s &&& 31) ^^^ -1))) (q + 21) 0 1) (q + 21) 1 (nI (p_pd s))) (q + 21) 2 (nI s)) (q + 21) 3 (p_xor (f 4) (p_pd s) s 5)) (q + 21) 4 (f q 10)) none) : tS fl (d + 4) 73 [tw_R 0, tw_R q, tw_I (nI s)] f P := by
  have lc := tx_ctl hq
  obtain ⟨a0, a1, a2, a3, a4⟩ := tx_ent (tx_c1 hq)
  obtain ⟨m0, m1, m2, m3, m4⟩ := tx_ent (tx_c6 hq)
  obtain ⟨i0, i1, i2, i3, i4, i5⟩ := tx_inb (tx_c11 hq)
  obtain ⟨d0, d1, d2, d3⟩ := tx_des (tx_c17 hq)
  have w0 := tx_dwr (tx_c21 hq)
  have hp : p_pd s < 5 := by unfold p_pd; omega
  have e5 : tw_up f q 14 (f q 14 &&& (1 <<< (nI s &&& 31) ^^^ -1)) 5 = f 5 := by funext j; exact tw_off (by omega)
  have e4 : tw_up f q 14 (f q 14 &&& (1 <<< (nI s &&& 31) ^^^ -1)) 4 = f 4 := by funext j; exact tw_off (by omega)
  have e10 : tw_up f q 14 (f q 14 &&& (1 <<< (nI s &&& 31) ^^^ -1)) q 10 = f q 10 := tw_off (by omega)
  refine tw_Sp_of rfl rfl (Nat.le_of_ble_eq_true rfl) (fun X h => ?_)
  refine zi_aload_n h rfl rfl ?_
  refine zi_dup h rfl rfl ?_
  refine zg_int h rfl (by first | rfl | assumption) (by decide) rfl ?_
  refine zn_iconst h 1 rfl rfl ?_
  refine zi_iload_n h rfl rfl ?_
  refine zi_ishl h rfl ?_
  refine zi_iconst h rfl ?_
  refine zi_ixor h rfl ?_
  refine zi_iand h rfl ?_
  refine zp_int h rfl (by first | rfl | assumption) (by decide) rfl ?_
  show X 10 _ _ _ _
  refine zi_aload_n h rfl rfl ?_
  refine zg_ref h rfl (by first | rfl | assumption) (by decide) rfl rfl ?_
  refine zi_iload_n h rfl rfl ?_
  refine zk_V h [_] rfl (by first | rfl | assumption) rfl rfl (Nat.le_of_ble_eq_true rfl) (s_isAnyMissing hs (fun c1 => ?_) (fun c1 => ?_))
  · first | refine zb_ifne h rfl (fun hc => ?_) (fun hc => ?_) | refine zc_ifne h rfl (fun hc => ?_) (fun hc => ?_)
    · refine zi_vret h rfl ?_
      exact h1 (e5 ▸ c1)
    · exact absurd hc (by decide)
  · first | refine zb_ifne h rfl (fun hc => ?_) (fun hc => ?_) | refine zc_ifne h rfl (fun hc => ?_) (fun hc => ?_)
    · exact absurd rfl hc
    · refine zi_iload_n h rfl rfl ?_
      refine zk_S h [_] rfl rfl rfl (Nat.le_of_ble_eq_true rfl) (s_parityDisk hs ?_)
      refine zi_istore_n h rfl (Nat.le_of_ble_eq_true rfl) ?_
      refine zi_aload_n h rfl rfl ?_
      refine zg_ref h rfl (by first | rfl | assumption) (by decide) rfl rfl ?_
      refine zi_iload_n h rfl rfl ?_
      refine zi_iload_n h rfl rfl ?_
      refine zi_aload_n h rfl rfl ?_
      refine zg_ref h rfl (by first | rfl | assumption) (by decide) rfl rfl ?_
      refine zi_iload_n h rfl rfl ?_
      refine zi_iload_n h rfl rfl ?_
      refine zk_V h [_, _] rfl (by first | rfl | assumption) rfl rfl (Nat.le_of_ble_eq_true rfl) (s_xorOfOthers hp hs ?_)
      refine zi_aload_n h rfl rfl ?_
      refine zg_int h rfl (by first | rfl | assumption) (by decide) rfl ?_
      refine zk_V h [_, _, _, _] rfl (by first | rfl | assumption) rfl rfl (Nat.le_of_ble_eq_true rfl) (s_wbegin (tx_c21 hq) ?_)
      refine zi_vret h rfl ?_
      have h2 := h2 (fun u => c1 (e5.symm ▸ u))
      rw [← e4, ← e10] at h2
      exact h2
