/-! TwinArray's public methods: arrivals, state, pair, moveOwner. -/
set_option maxRecDepth 20000 in
theorem s_notice0 {fl : Bool} {d : Nat} {f : tw_S} {P : tw_S → Option tw_A → Prop} {q i k : Nat} (hq : q = 17 ∨ q = 39) (hn : f q 0 = if q = 17 then 0 else 1) (hb : p_box f (56 - q)) (hi : i < 40) (hp : f (q + 13) i = nI k) (hk : k < 32) (hP : P (p_send (p_newer f q k (f (q + 14) i) (f (q + 15) i)) (56 - q) 1 0 0 0 (f (q + 16) i)) none) : tS fl (d + 3) 84 [tw_R 0, tw_R q, tw_I (nI 0), tw_I (nI i)] f P := by
  have lc := tx_ctl hq
  obtain ⟨a0, a1, a2, a3, a4⟩ := tx_ent (tx_c1 hq)
  obtain ⟨m0, m1, m2, m3, m4⟩ := tx_ent (tx_c6 hq)
  obtain ⟨i0, i1, i2, i3, i4, i5⟩ := tx_inb (tx_c11 hq)
  obtain ⟨d0, d1, d2, d3⟩ := tx_des (tx_c17 hq)
  have w0 := tx_dwr (tx_c21 hq)
  have hbn : p_box (p_newer f q k (f (q + 14) i) (f (q + 15) i)) (56 - q) := by
    obtain ⟨a, m, g1, g2, g3, g4⟩ := hb
    exact ⟨a, m, by rw [p_newer_off (by omega)]; exact g1, g2, by rw [p_newer_off (by omega)]; exact g3, g4⟩
  refine tw_Sp_of rfl rfl (Nat.le_of_ble_eq_true rfl) (fun X h => ?_)
  have tail : ∀ g : tw_S, (∀ a b, g a b = p_newer f q k (f (q + 14) i) (f (q + 15) i) a b) → X 22 [some (tw_R 0), some (tw_R q), some (tw_I (nI 0)), some (tw_I (nI i)), some (tw_R (q + 11)), some (tw_I (nI k))] [] tx_L0 g := by
    intro g hg
    refine tw_mem hg ?_
    have e16 : p_newer f q k (f (q + 14) i) (f (q + 15) i) (q + 11 + 5) i = f (q + 16) i := p_newer_off (by omega)
    refine zi_aload_n h rfl rfl ?_
    refine zi_aload_n h rfl rfl ?_
    refine zi_aload_n h rfl rfl ?_
    refine zk_V h [_] rfl (by first | rfl | assumption) rfl rfl (Nat.le_of_ble_eq_true rfl) (s_partnerOf hq (by rw [p_newer_off (by omega)]; exact hn) ?_)
    refine zn_iconst h 1 rfl rfl ?_
    refine zn_iconst h 0 rfl rfl ?_
    refine zn_iconst h 0 rfl rfl ?_
    refine zn_iconst h 0 rfl rfl ?_
    refine zi_aload h rfl rfl ?_
    refine zg_ref h rfl (by first | rfl | assumption) (by decide) rfl rfl ?_
    refine zi_iload_n h rfl rfl ?_
    refine za_i h rfl (by first | rfl | assumption) rfl (by omega) (by decide) ?_
    rw [e16]
    refine zk_V h [_, _, _, _, _, _] rfl (by first | rfl | assumption) rfl rfl (Nat.le_of_ble_eq_true rfl) (s_send (by omega) hbn ?_)
    refine zi_goto h rfl ?_
    refine zi_vret h rfl ?_
    exact hP
  refine zi_aload_n h rfl rfl ?_
  refine zg_ref h rfl (by first | rfl | assumption) (by decide) rfl rfl ?_
  refine zi_astore h rfl (Nat.le_of_ble_eq_true rfl) ?_
  refine zi_aload h rfl rfl ?_
  refine zg_ref h rfl (by first | rfl | assumption) (by decide) rfl rfl ?_
  refine zi_iload_n h rfl rfl ?_
  refine za_n h k rfl (by first | rfl | assumption) rfl (by omega) (by decide) hp ?_
  refine zi_istore h rfl (Nat.le_of_ble_eq_true rfl) ?_
  refine zi_iload_n h rfl rfl ?_
  refine zi_switch h rfl rfl ?_
  rw [tw_tg_n (by omega)]
  show X 10 _ _ _ _
  refine zi_aload_n h rfl rfl ?_
  refine zg_ref h rfl (by first | rfl | assumption) (by decide) rfl rfl ?_
  refine zi_iload h rfl rfl ?_
  refine zi_aload h rfl rfl ?_
  refine zg_ref h rfl (by first | rfl | assumption) (by decide) rfl rfl ?_
  refine zi_iload_n h rfl rfl ?_
  refine za_i h rfl (by first | rfl | assumption) rfl (by omega) (by decide) ?_
  refine zi_aload h rfl rfl ?_
  refine zg_ref h rfl (by first | rfl | assumption) (by decide) rfl rfl ?_
  refine zi_iload_n h rfl rfl ?_
  show X 20 _ _ _ _
  refine za_i h rfl (by first | rfl | assumption) rfl (by omega) (by decide) ?_
  refine zk_V h [_, _, _] rfl (by first | rfl | assumption) rfl rfl (Nat.le_of_ble_eq_true rfl) (s_putIfNewer (tx_c6 hq) hk (fun g => ?_) (fun g => ?_))
  · refine tail _ (fun a b => ?_)
    rw [p_newer, if_pos g]
  · refine tail _ (fun a b => ?_)
    rw [p_newer, if_neg g]
set_option maxRecDepth 20000 in
theorem s_notice1 {fl : Bool} {d : Nat} {f : tw_S} {P : tw_S → Option tw_A → Prop} {q i tm : Nat} (hq : q = 17 ∨ q = 39) (hi : i < 40) (ht : f 6 5 = nI tm) (ht2 : tm ≤ 200) (h1 : ∀ j, j < tm → f (q + 16) i = nI j → f 7 j = 0 → P (tw_up f 7 j 1) none) (h2 : (∀ j, j < tm → f (q + 16) i = nI j → ¬ f 7 j = 0) → P f none) : tS fl (d + 3) 84 [tw_R 0, tw_R q, tw_I (nI 1), tw_I (nI i)] f P := by
  have lc := tx_ctl hq
  obtain ⟨a0, a1, a2, a3, a4⟩ := tx_ent (tx_c1 hq)
  obtain ⟨m0, m1, m2, m3, m4⟩ := tx_ent (tx_c6 hq)
  obtain ⟨i0, i1, i2, i3, i4, i5⟩ := tx_inb (tx_c11 hq)
  obtain ⟨d0, d1, d2, d3⟩ := tx_des (tx_c17 hq)
  have w0 := tx_dwr (tx_c21 hq)
  refine tw_Sp_of rfl rfl (Nat.le_of_ble_eq_true rfl) (fun X h => ?_)
  refine zi_aload_n h rfl rfl ?_
  refine zg_ref h rfl (by first | rfl | assumption) (by decide) rfl rfl ?_
  refine zi_astore h rfl (Nat.le_of_ble_eq_true rfl) ?_
  refine zi_aload h rfl rfl ?_
  refine zg_ref h rfl (by first | rfl | assumption) (by decide) rfl rfl ?_
  refine zi_iload_n h rfl rfl ?_
  refine za_i h rfl (by first | rfl | assumption) rfl (by omega) (by decide) ?_
  refine zi_istore h rfl (Nat.le_of_ble_eq_true rfl) ?_
  refine zi_iload_n h rfl rfl ?_
  refine zi_switch h rfl rfl ?_
  rw [tw_tg_n (by omega)]
  show X 36 _ _ _ _
  refine zi_aload_n h rfl rfl ?_
  refine zg_ref h rfl (by first | rfl | assumption) (by decide) rfl rfl ?_
  refine zi_aload h rfl rfl ?_
  refine zg_ref h rfl (by first | rfl | assumption) (by decide) rfl rfl ?_
  refine zi_iload_n h rfl rfl ?_
  refine za_i h rfl (by first | rfl | assumption) rfl (by omega) (by decide) ?_
  refine zk_V h [_] rfl (by first | rfl | assumption) rfl rfl (Nat.le_of_ble_eq_true rfl) (s_finish ht ht2 (fun j g1 g2 g3 => ?_) (fun g => ?_))
  · refine zi_goto h rfl ?_
    refine zi_vret h rfl ?_
    exact h1 j g1 g2 g3
  · refine zi_goto h rfl ?_
    refine zi_vret h rfl ?_
    exact h2 g
set_option maxRecDepth 20000 in
theorem s_notice2 {fl : Bool} {d : Nat} {f : tw_S} {P : tw_S → Option tw_A → Prop} {q i k : Nat} (hq : q = 17 ∨ q = 39) (hi : i < 40) (hp : f (q + 13) i = nI k) (hk : k < 32) (hP : P (p_dropv f q k (f (q + 15) i)) none) : tS fl (d + 3) 84 [tw_R 0, tw_R q, tw_I (nI 2), tw_I (nI i)] f P := by
  have lc := tx_ctl hq
  obtain ⟨a0, a1, a2, a3, a4⟩ := tx_ent (tx_c1 hq)
  obtain ⟨m0, m1, m2, m3, m4⟩ := tx_ent (tx_c6 hq)
  obtain ⟨i0, i1, i2, i3, i4, i5⟩ := tx_inb (tx_c11 hq)
  obtain ⟨d0, d1, d2, d3⟩ := tx_des (tx_c17 hq)
  have w0 := tx_dwr (tx_c21 hq)
  refine tw_Sp_of rfl rfl (Nat.le_of_ble_eq_true rfl) (fun X h => ?_)
  refine zi_aload_n h rfl rfl ?_
  refine zg_ref h rfl (by first | rfl | assumption) (by decide) rfl rfl ?_
  refine zi_astore h rfl (Nat.le_of_ble_eq_true rfl) ?_
  refine zi_aload h rfl rfl ?_
  refine zg_ref h rfl (by first | rfl | assumption) (by decide) rfl rfl ?_
  refine zi_iload_n h rfl rfl ?_
  refine za_n h k rfl (by first | rfl | assumption) rfl (by omega) (by decide) hp ?_
  refine zi_istore h rfl (Nat.le_of_ble_eq_true rfl) ?_
  refine zi_iload_n h rfl rfl ?_
  refine zi_switch h rfl rfl ?_
  rw [tw_tg_n (by omega)]
  show X 44 _ _ _ _
  refine zi_aload_n h rfl rfl ?_
  refine zg_ref h rfl (by first | rfl | assumption) (by decide) rfl rfl ?_
  refine zi_iload h rfl rfl ?_
  refine zi_aload h rfl rfl ?_
  refine zg_ref h rfl (by first | rfl | assumption) (by decide) rfl rfl ?_
  refine zi_iload_n h rfl rfl ?_
  refine za_i h rfl (by first | rfl | assumption) rfl (by omega) (by decide) ?_
  refine zk_V h [_, _] rfl (by first | rfl | assumption) rfl rfl (Nat.le_of_ble_eq_true rfl) (s_dropVersion (tx_c6 hq) hk (fun g => ?_) (fun g => ?_))
  · refine zi_goto h rfl ?_
    refine zi_vret h rfl ?_
    rw [p_dropv, if_pos g] at hP
    exact hP
  · refine zi_goto h rfl ?_
    refine zi_vret h rfl ?_
    rw [p_dropv, if_neg g] at hP
    exact hP
set_option maxRecDepth 20000 in
theorem s_notice3 {fl : Bool} {d : Nat} {f : tw_S} {P : tw_S → Option tw_A → Prop} {q i : Nat} (hq : q = 17 ∨ q = 39) (hi : i < 40) (hP : P (tw_up f q 13 (f q 13 ||| 1 <<< (f (q + 13) i &&& 31))) none) : tS fl (d + 3) 84 [tw_R 0, tw_R q, tw_I (nI 3), tw_I (nI i)] f P := by
  have lc := tx_ctl hq
  obtain ⟨a0, a1, a2, a3, a4⟩ := tx_ent (tx_c1 hq)
  obtain ⟨m0, m1, m2, m3, m4⟩ := tx_ent (tx_c6 hq)
  obtain ⟨i0, i1, i2, i3, i4, i5⟩ := tx_inb (tx_c11 hq)
  obtain ⟨d0, d1, d2, d3⟩ := tx_des (tx_c17 hq)
  have w0 := tx_dwr (tx_c21 hq)
  refine tw_Sp_of rfl rfl (Nat.le_of_ble_eq_true rfl) (fun X h => ?_)
  refine zi_aload_n h rfl rfl ?_
  refine zg_ref h rfl (by first | rfl | assumption) (by decide) rfl rfl ?_
  refine zi_astore h rfl (Nat.le_of_ble_eq_true rfl) ?_
  refine zi_aload h rfl rfl ?_
  refine zg_ref h rfl (by first | rfl | assumption) (by decide) rfl rfl ?_
  refine zi_iload_n h rfl rfl ?_
  refine za_i h rfl (by first | rfl | assumption) rfl (by omega) (by decide) ?_
  refine zi_istore h rfl (Nat.le_of_ble_eq_true rfl) ?_
  refine zi_iload_n h rfl rfl ?_
  refine zi_switch h rfl rfl ?_
  rw [tw_tg_n (by omega)]
  show X 53 _ _ _ _
  refine zi_aload_n h rfl rfl ?_
  refine zi_dup h rfl rfl ?_
  refine zg_int h rfl (by first | rfl | assumption) (by decide) rfl ?_
  refine zn_iconst h 1 rfl rfl ?_
  refine zi_iload h rfl rfl ?_
  refine zi_ishl h rfl ?_
  refine zi_ior h rfl ?_
  refine zp_int h rfl (by first | rfl | assumption) (by decide) rfl ?_
  refine zi_goto h rfl ?_
  refine zi_vret h rfl ?_
  exact hP
set_option maxRecDepth 20000 in
theorem s_notice4 {fl : Bool} {d : Nat} {f : tw_S} {P : tw_S → Option tw_A → Prop} {q i : Nat} (hq : q = 17 ∨ q = 39) (hi : i < 40) (hP : P (tw_up f q 13 (f q 13 &&& (1 <<< (f (q + 13) i &&& 31) ^^^ -1))) none) : tS fl (d + 3) 84 [tw_R 0, tw_R q, tw_I (nI 4), tw_I (nI i)] f P := by
  have lc := tx_ctl hq
  obtain ⟨a0, a1, a2, a3, a4⟩ := tx_ent (tx_c1 hq)
  obtain ⟨m0, m1, m2, m3, m4⟩ := tx_ent (tx_c6 hq)
  obtain ⟨i0, i1, i2, i3, i4, i5⟩ := tx_inb (tx_c11 hq)
  obtain ⟨d0, d1, d2, d3⟩ := tx_des (tx_c17 hq)
  have w0 := tx_dwr (tx_c21 hq)
  refine tw_Sp_of rfl rfl (Nat.le_of_ble_eq_true rfl) (fun X h => ?_)
  refine zi_aload_n h rfl rfl ?_
  refine zg_ref h rfl (by first | rfl | assumption) (by decide) rfl rfl ?_
  refine zi_astore h rfl (Nat.le_of_ble_eq_true rfl) ?_
  refine zi_aload h rfl rfl ?_
  refine zg_ref h rfl (by first | rfl | assumption) (by decide) rfl rfl ?_
  refine zi_iload_n h rfl rfl ?_
  refine za_i h rfl (by first | rfl | assumption) rfl (by omega) (by decide) ?_
  refine zi_istore h rfl (Nat.le_of_ble_eq_true rfl) ?_
  refine zi_iload_n h rfl rfl ?_
  refine zi_switch h rfl rfl ?_
  rw [tw_tg_n (by omega)]
  show X 62 _ _ _ _
  refine zi_aload_n h rfl rfl ?_
  refine zi_dup h rfl rfl ?_
  refine zg_int h rfl (by first | rfl | assumption) (by decide) rfl ?_
  refine zn_iconst h 1 rfl rfl ?_
  refine zi_iload h rfl rfl ?_
  refine zi_ishl h rfl ?_
  refine zi_iconst h rfl ?_
  refine zi_ixor h rfl ?_
  refine zi_iand h rfl ?_
  refine zp_int h rfl (by first | rfl | assumption) (by decide) rfl ?_
  show X 72 _ _ _ _
  refine zi_goto h rfl ?_
  refine zi_vret h rfl ?_
  exact hP
set_option maxRecDepth 20000 in
theorem s_notice5 {fl : Bool} {d : Nat} {f : tw_S} {P : tw_S → Option tw_A → Prop} {q i : Nat} (hq : q = 17 ∨ q = 39) (hi : i < 40) (hP : P (tw_up f q 15 0) none) : tS fl (d + 3) 84 [tw_R 0, tw_R q, tw_I (nI 5), tw_I (nI i)] f P := by
  have lc := tx_ctl hq
  obtain ⟨a0, a1, a2, a3, a4⟩ := tx_ent (tx_c1 hq)
  obtain ⟨m0, m1, m2, m3, m4⟩ := tx_ent (tx_c6 hq)
  obtain ⟨i0, i1, i2, i3, i4, i5⟩ := tx_inb (tx_c11 hq)
  obtain ⟨d0, d1, d2, d3⟩ := tx_des (tx_c17 hq)
  have w0 := tx_dwr (tx_c21 hq)
  refine tw_Sp_of rfl rfl (Nat.le_of_ble_eq_true rfl) (fun X h => ?_)
  refine zi_aload_n h rfl rfl ?_
  refine zg_ref h rfl (by first | rfl | assumption) (by decide) rfl rfl ?_
  refine zi_astore h rfl (Nat.le_of_ble_eq_true rfl) ?_
  refine zi_aload h rfl rfl ?_
  refine zg_ref h rfl (by first | rfl | assumption) (by decide) rfl rfl ?_
  refine zi_iload_n h rfl rfl ?_
  refine za_i h rfl (by first | rfl | assumption) rfl (by omega) (by decide) ?_
  refine zi_istore h rfl (Nat.le_of_ble_eq_true rfl) ?_
  refine zi_iload_n h rfl rfl ?_
  refine zi_switch h rfl rfl ?_
  rw [tw_tg_n (by omega)]
  show X 73 _ _ _ _
  refine zi_aload_n h rfl rfl ?_
  refine zn_iconst h 0 rfl rfl ?_
  refine zp_int h rfl (by first | rfl | assumption) (by decide) rfl ?_
  refine zi_vret h rfl ?_
  exact hP
set_option maxRecDepth 20000 in
theorem s_arrive_x {fl : Bool} {d : Nat} {f : tw_S} {P : tw_S → Option tw_A → Prop} {x : Int32} (hx : ¬ (x = 0 ∨ x = 1) ∨ ¬ f 0 5 = 0) (hP : P f (some (tw_I (-1)))) : tS fl (d + 4) 85 [tw_R 0, tw_I x] f P := by
  refine tw_Sp_of rfl rfl (Nat.le_of_ble_eq_true rfl) (fun X h => ?_)
  refine zi_iload_n h rfl rfl ?_
  refine zk_S h [_] rfl rfl rfl (Nat.le_of_ble_eq_true rfl) (s_isController (fun c1 => ?_) (fun c1 => ?_))
  · first | refine zb_ifeq h rfl (fun hc => ?_) (fun hc => ?_) | refine zc_ifeq h rfl (fun hc => ?_) (fun hc => ?_)
    · exact absurd hc (by decide)
    · refine zi_aload_n h rfl rfl ?_
      refine zg_boo h rfl (by first | rfl | assumption) (by decide) rfl ?_
      first | refine zb_ifeq h rfl (fun hc => ?_) (fun hc => ?_) | refine zc_ifeq h rfl (fun hc => ?_) (fun hc => ?_)
      · exact absurd hc (hx.elim (fun u => absurd c1 u) (fun u => u))
      · refine zi_iconst h rfl ?_
        refine zi_iret h rfl ?_
        exact hP
  · first | refine zb_ifeq h rfl (fun hc => ?_) (fun hc => ?_) | refine zc_ifeq h rfl (fun hc => ?_) (fun hc => ?_)
    · refine zi_iconst h rfl ?_
      refine zi_iret h rfl ?_
      exact hP
    · exact absurd rfl hc
set_option maxRecDepth 20000 in
theorem s_arrive_c {fl : Bool} {d : Nat} {f : tw_S} {P : tw_S → Option tw_A → Prop} {c q a m : Nat} (hc : c < 2) (hqc : q = 17 + 22 * c) (h0 : f 0 5 = 0) (ha : f (q + 11) 5 = nI a) (ha2 : a < 40) (hm : f (q + 11) 6 = nI m) (hm2 : m ≤ 40) (h1 : m = 0 → P f (some (tw_I (-1)))) (h2 : 0 < m → ¬ (¬ f q 6 = 0 ∧ ¬ f q 7 = 0) → P (p_take f q a m) (some (tw_I (f (q + 12) a)))) (h3 : 0 < m → (¬ f q 6 = 0 ∧ ¬ f q 7 = 0) → tS fl (d + 3) 84 [tw_R 0, tw_R q, tw_I (f (q + 12) a), tw_I (nI a)] (p_take f q a m) (fun f2 r => r = none ∧ P f2 (some (tw_I (f (q + 12) a))))) : tS fl (d + 4) 85 [tw_R 0, tw_I (nI c)] f P := by
  have hcc := hc
  have hq : q = 17 ∨ q = 39 := by omega
  have lc := tx_ctl hq
  obtain ⟨a0, a1, a2, a3, a4⟩ := tx_ent (tx_c1 hq)
  obtain ⟨m0, m1, m2, m3, m4⟩ := tx_ent (tx_c6 hq)
  obtain ⟨i0, i1, i2, i3, i4, i5⟩ := tx_inb (tx_c11 hq)
  obtain ⟨d0, d1, d2, d3⟩ := tx_des (tx_c17 hq)
  have w0 := tx_dwr (tx_c21 hq)
  have e12 : p_take f q a m (q + 11 + 1) a = f (q + 12) a := by unfold p_take; rw [tw_off (by omega), tw_off (by omega)]
  have e6 : p_take f q a m q 6 = f q 6 := by unfold p_take; rw [tw_off (by omega), tw_off (by omega)]
  have e7 : p_take f q a m q 7 = f q 7 := by unfold p_take; rw [tw_off (by omega), tw_off (by omega)]
  refine tw_Sp_of rfl rfl (Nat.le_of_ble_eq_true rfl) (fun X h => ?_)
  refine zi_iload_n h rfl rfl ?_
  refine zk_S h [_] rfl rfl rfl (Nat.le_of_ble_eq_true rfl) (s_ctl1 hcc ?_)
  first | refine zb_ifeq h rfl (fun hc => ?_) (fun hc => ?_) | refine zc_ifeq h rfl (fun hc => ?_) (fun hc => ?_)
  · exact absurd hc (by decide)
  · refine zi_aload_n h rfl rfl ?_
    refine zg_boo h rfl (by first | rfl | assumption) (by decide) rfl ?_
    first | refine zb_ifeq h rfl (fun hc => ?_) (fun hc => ?_) | refine zc_ifeq h rfl (fun hc => ?_) (fun hc => ?_)
    · refine zi_aload_n h rfl rfl ?_
      refine zi_iload_n h rfl rfl ?_
      refine zk_V h [_] rfl (by first | rfl | assumption) rfl rfl (Nat.le_of_ble_eq_true rfl) (s_num hcc hqc ?_)
      refine zi_astore_n h rfl (Nat.le_of_ble_eq_true rfl) ?_
      refine zi_aload_n h rfl rfl ?_
      refine zg_ref h rfl (by first | rfl | assumption) (by decide) rfl rfl ?_
      refine zg_nat h m rfl (by first | rfl | assumption) (by decide) rfl hm ?_
      refine zc_ifne h rfl (fun hc => ?_) (fun hc => ?_)
      · have hm3 : 0 < m := by
          rcases Nat.eq_zero_or_pos m with u | u
          · subst u; exact absurd rfl hc
          · exact u
        refine zi_aload_n h rfl rfl ?_
        refine zg_ref h rfl (by first | rfl | assumption) (by decide) rfl rfl ?_
        refine zk_V h [] rfl (by first | rfl | assumption) rfl rfl (Nat.le_of_ble_eq_true rfl) (s_takeFirst (tx_c11 hq) ha ha2 hm hm2 hm3 ?_)
        refine tw_mem (g := p_take f q a m) (fun _ _ => rfl) ?_
        refine zi_istore_n h rfl (Nat.le_of_ble_eq_true rfl) ?_
        refine zi_aload_n h rfl rfl ?_
        refine zg_ref h rfl (by first | rfl | assumption) (by decide) rfl rfl ?_
        refine zg_ref h rfl (by first | rfl | assumption) (by decide) rfl rfl ?_
        refine zi_iload_n h rfl rfl ?_
        refine za_i h rfl (by first | rfl | assumption) rfl (by omega) (by decide) ?_
        rw [e12]
        refine zi_istore h rfl (Nat.le_of_ble_eq_true rfl) ?_
        refine zi_aload_n h rfl rfl ?_
        refine zg_boo h rfl (by first | rfl | assumption) (by decide) rfl ?_
        first | refine zb_ifeq h rfl (fun hc => ?_) (fun hc => ?_) | refine zc_ifeq h rfl (fun hc => ?_) (fun hc => ?_)
        · rw [e6] at hc
          refine zi_iload h rfl rfl ?_
          refine zi_iret h rfl ?_
          exact h2 hm3 (fun u => u.1 hc)
        · rw [e6] at hc
          have c6 := hc
          refine zi_aload_n h rfl rfl ?_
          refine zg_boo h rfl (by first | rfl | assumption) (by decide) rfl ?_
          first | refine zb_ifeq h rfl (fun hc => ?_) (fun hc => ?_) | refine zc_ifeq h rfl (fun hc => ?_) (fun hc => ?_)
          · rw [e7] at hc
            refine zi_iload h rfl rfl ?_
            refine zi_iret h rfl ?_
            exact h2 hm3 (fun u => u.2 hc)
          · rw [e7] at hc
            refine zi_aload_n h rfl rfl ?_
            refine zi_aload_n h rfl rfl ?_
            refine zi_iload h rfl rfl ?_
            refine zi_iload_n h rfl rfl ?_
            refine zk_V h [_, _, _] rfl (by first | rfl | assumption) rfl rfl (Nat.le_of_ble_eq_true rfl) (tw_Sp_mono (h3 hm3 ⟨c6, hc⟩) (fun f2 r k => ?_))
            obtain ⟨rfl, k⟩ := k
            refine zi_iload h rfl rfl ?_
            refine zi_iret h rfl ?_
            exact k
      · refine zi_iconst h rfl ?_
        refine zi_iret h rfl ?_
        exact h1 ((nI_zero (by omega)).mp hc)
    · exact absurd h0 hc
set_option maxRecDepth 20000 in
theorem s_state_x {fl : Bool} {d : Nat} {f : tw_S} {P : tw_S → Option tw_A → Prop} {x y : Int32} (hx : ¬ (x = 0 ∨ x = 1)) (hP : P f (some (tw_I (-1)))) : tS fl (d + 3) 105 [tw_R 0, tw_I x, tw_I y] f P := by
  refine tw_Sp_of rfl rfl (Nat.le_of_ble_eq_true rfl) (fun X h => ?_)
  refine zi_iload_n h rfl rfl ?_
  refine zk_S h [_] rfl rfl rfl (Nat.le_of_ble_eq_true rfl) (s_ctl0 hx ?_)
  first | refine zb_ifne h rfl (fun hc => ?_) (fun hc => ?_) | refine zc_ifne h rfl (fun hc => ?_) (fun hc => ?_)
  · exact absurd rfl hc
  · refine zi_iconst h rfl ?_
    refine zi_iret h rfl ?_
    exact hP
set_option maxRecDepth 20000 in
theorem s_state_y {fl : Bool} {d : Nat} {f : tw_S} {P : tw_S → Option tw_A → Prop} {c q : Nat} {y : Int32} (hc : c < 2) (hqc : q = 17 + 22 * c) (hy : y < 0 ∨ nI 14 ≤ y) (hP : P f (some (tw_I (-1)))) : tS fl (d + 3) 105 [tw_R 0, tw_I (nI c), tw_I y] f P := by
  have hcc := hc
  have hq : q = 17 ∨ q = 39 := by omega
  have lc := tx_ctl hq
  obtain ⟨a0, a1, a2, a3, a4⟩ := tx_ent (tx_c1 hq)
  obtain ⟨m0, m1, m2, m3, m4⟩ := tx_ent (tx_c6 hq)
  obtain ⟨i0, i1, i2, i3, i4, i5⟩ := tx_inb (tx_c11 hq)
  obtain ⟨d0, d1, d2, d3⟩ := tx_des (tx_c17 hq)
  have w0 := tx_dwr (tx_c21 hq)
  refine tw_Sp_of rfl rfl (Nat.le_of_ble_eq_true rfl) (fun X h => ?_)
  refine zi_iload_n h rfl rfl ?_
  refine zk_S h [_] rfl rfl rfl (Nat.le_of_ble_eq_true rfl) (s_ctl1 hcc ?_)
  first | refine zb_ifne h rfl (fun hc => ?_) (fun hc => ?_) | refine zc_ifne h rfl (fun hc => ?_) (fun hc => ?_)
  · refine zi_aload_n h rfl rfl ?_
    refine zi_iload_n h rfl rfl ?_
    refine zk_V h [_] rfl (by first | rfl | assumption) rfl rfl (Nat.le_of_ble_eq_true rfl) (s_num hcc hqc ?_)
    refine zi_astore_n h rfl (Nat.le_of_ble_eq_true rfl) ?_
    refine zi_iload_n h rfl rfl ?_
    refine zi_switch h rfl rfl ?_
    have e : tw_tg 0 [11, 15, 19, 23, 26, 29, 36, 43, 50, 57, 61, 64, 67, 70] 73 y = 73 := by
      unfold tw_tg
      split
      · rfl
      · rename_i hn
        rcases hy with g | g
        · exact absurd (Int32.lt_iff_toInt_lt.mp g) hn
        · have g2 := Int32.le_iff_toInt_le.mp g
          rw [nI_toInt (by omega)] at g2
          rw [List.getD_eq_getElem?_getD, List.getElem?_eq_none]
          · rfl
          · show 14 ≤ _
            omega
    rw [e]
    refine zi_iconst h rfl ?_
    refine zi_iret h rfl ?_
    exact hP
  · exact absurd hc (by decide)
set_option maxRecDepth 20000 in
theorem s_state_j {fl : Bool} {d : Nat} {f : tw_S} {P : tw_S → Option tw_A → Prop} {c q j : Nat} (hc : c < 2) (hqc : q = 17 + 22 * c) (hj : j < 14) (hP : P f (some (tw_I (p_st f q j)))) : tS fl (d + 3) 105 [tw_R 0, tw_I (nI c), tw_I (nI j)] f P := by
  have hcc := hc
  have hq : q = 17 ∨ q = 39 := by omega
  have lc := tx_ctl hq
  obtain ⟨a0, a1, a2, a3, a4⟩ := tx_ent (tx_c1 hq)
  obtain ⟨m0, m1, m2, m3, m4⟩ := tx_ent (tx_c6 hq)
  obtain ⟨i0, i1, i2, i3, i4, i5⟩ := tx_inb (tx_c11 hq)
  obtain ⟨d0, d1, d2, d3⟩ := tx_des (tx_c17 hq)
  have w0 := tx_dwr (tx_c21 hq)
  refine tw_Sp_of rfl rfl (Nat.le_of_ble_eq_true rfl) (fun X h => ?_)
  refine zi_iload_n h rfl rfl ?_
  refine zk_S h [_] rfl rfl rfl (Nat.le_of_ble_eq_true rfl) (s_ctl1 hcc ?_)
  first | refine zb_ifne h rfl (fun hc => ?_) (fun hc => ?_) | refine zc_ifne h rfl (fun hc => ?_) (fun hc => ?_)
  · refine zi_aload_n h rfl rfl ?_
    refine zi_iload_n h rfl rfl ?_
    refine zk_V h [_] rfl (by first | rfl | assumption) rfl rfl (Nat.le_of_ble_eq_true rfl) (s_num hcc hqc ?_)
    refine zi_astore_n h rfl (Nat.le_of_ble_eq_true rfl) ?_
    refine zi_iload_n h rfl rfl ?_
    refine zi_switch h rfl rfl ?_
    rw [tw_tg_n (by omega)]
    rcases (show j = 0 ∨ j = 1 ∨ j = 2 ∨ j = 3 ∨ j = 4 ∨ j = 5 ∨ j = 6 ∨ j = 7 ∨ j = 8 ∨ j = 9 ∨ j = 10 ∨ j = 11 ∨ j = 12 ∨ j = 13 by omega) with rfl | rfl | rfl | rfl | rfl | rfl | rfl | rfl | rfl | rfl | rfl | rfl | rfl | rfl
    · show X 11 _ _ _ _
      refine zi_aload_n h rfl rfl ?_
      refine zg_ref h rfl (by first | rfl | assumption) (by decide) rfl rfl ?_
      refine zk_V h [] rfl (by first | rfl | assumption) rfl rfl (Nat.le_of_ble_eq_true rfl) (s_countDirty (tx_c1 hq) ?_)
      refine zi_iret h rfl ?_
      exact hP
    · show X 15 _ _ _ _
      refine zi_aload_n h rfl rfl ?_
      refine zg_ref h rfl (by first | rfl | assumption) (by decide) rfl rfl ?_
      refine zk_V h [] rfl (by first | rfl | assumption) rfl rfl (Nat.le_of_ble_eq_true rfl) (s_countHeld (tx_c6 hq) ?_)
      refine zi_iret h rfl ?_
      exact hP
    · show X 19 _ _ _ _
      refine zi_aload_n h rfl rfl ?_
      refine zg_ref h rfl (by first | rfl | assumption) (by decide) rfl rfl ?_
      refine zg_int h rfl (by first | rfl | assumption) (by decide) rfl ?_
      refine zi_iret h rfl ?_
      exact hP
    · show X 23 _ _ _ _
      refine zi_aload_n h rfl rfl ?_
      refine zg_int h rfl (by first | rfl | assumption) (by decide) rfl ?_
      refine zi_iret h rfl ?_
      exact hP
    · show X 26 _ _ _ _
      refine zi_aload_n h rfl rfl ?_
      refine zg_int h rfl (by first | rfl | assumption) (by decide) rfl ?_
      refine zi_iret h rfl ?_
      exact hP
    · show X 29 _ _ _ _
      refine zi_aload_n h rfl rfl ?_
      refine zg_boo h rfl (by first | rfl | assumption) (by decide) rfl ?_
      first | refine zb_ifeq h rfl (fun hc => ?_) (fun hc => ?_) | refine zc_ifeq h rfl (fun hc => ?_) (fun hc => ?_)
      · refine zn_iconst h 0 rfl rfl ?_
        refine zi_iret h rfl ?_
        rw [show p_st f q 5 = 0 from tw_nz_f hc] at hP
        exact hP
      · refine zn_iconst h 1 rfl rfl ?_
        refine zi_goto h rfl ?_
        refine zi_iret h rfl ?_
        rw [show p_st f q 5 = 1 from tw_nz_t hc] at hP
        exact hP
    · show X 36 _ _ _ _
      refine zi_aload_n h rfl rfl ?_
      refine zg_boo h rfl (by first | rfl | assumption) (by decide) rfl ?_
      first | refine zb_ifeq h rfl (fun hc => ?_) (fun hc => ?_) | refine zc_ifeq h rfl (fun hc => ?_) (fun hc => ?_)
      · refine zn_iconst h 0 rfl rfl ?_
        refine zi_iret h rfl ?_
        rw [show p_st f q 6 = 0 from tw_nz_f hc] at hP
        exact hP
      · refine zn_iconst h 1 rfl rfl ?_
        refine zi_goto h rfl ?_
        refine zi_iret h rfl ?_
        rw [show p_st f q 6 = 1 from tw_nz_t hc] at hP
        exact hP
    · show X 43 _ _ _ _
      refine zi_aload_n h rfl rfl ?_
      refine zg_boo h rfl (by first | rfl | assumption) (by decide) rfl ?_
      first | refine zb_ifeq h rfl (fun hc => ?_) (fun hc => ?_) | refine zc_ifeq h rfl (fun hc => ?_) (fun hc => ?_)
      · refine zn_iconst h 0 rfl rfl ?_
        refine zi_iret h rfl ?_
        rw [show p_st f q 7 = 0 from tw_nz_f hc] at hP
        exact hP
      · refine zn_iconst h 1 rfl rfl ?_
        refine zi_goto h rfl ?_
        refine zi_iret h rfl ?_
        rw [show p_st f q 7 = 1 from tw_nz_t hc] at hP
        exact hP
    · show X 50 _ _ _ _
      refine zi_aload_n h rfl rfl ?_
      refine zg_boo h rfl (by first | rfl | assumption) (by decide) rfl ?_
      first | refine zb_ifeq h rfl (fun hc => ?_) (fun hc => ?_) | refine zc_ifeq h rfl (fun hc => ?_) (fun hc => ?_)
      · refine zn_iconst h 0 rfl rfl ?_
        refine zi_iret h rfl ?_
        rw [show p_st f q 8 = 0 from tw_nz_f hc] at hP
        exact hP
      · refine zn_iconst h 1 rfl rfl ?_
        refine zi_goto h rfl ?_
        refine zi_iret h rfl ?_
        rw [show p_st f q 8 = 1 from tw_nz_t hc] at hP
        exact hP
    · show X 57 _ _ _ _
      refine zi_aload_n h rfl rfl ?_
      refine zg_ref h rfl (by first | rfl | assumption) (by decide) rfl rfl ?_
      refine zg_int h rfl (by first | rfl | assumption) (by decide) rfl ?_
      refine zi_iret h rfl ?_
      exact hP
    · show X 61 _ _ _ _
      refine zi_aload_n h rfl rfl ?_
      refine zg_int h rfl (by first | rfl | assumption) (by decide) rfl ?_
      refine zi_iret h rfl ?_
      exact hP
    · show X 64 _ _ _ _
      refine zi_aload_n h rfl rfl ?_
      refine zg_int h rfl (by first | rfl | assumption) (by decide) rfl ?_
      refine zi_iret h rfl ?_
      exact hP
    · show X 67 _ _ _ _
      refine zi_aload_n h rfl rfl ?_
      refine zg_int h rfl (by first | rfl | assumption) (by decide) rfl ?_
      refine zi_iret h rfl ?_
      exact hP
    · show X 70 _ _ _ _
      refine zi_aload_n h rfl rfl ?_
      refine zg_int h rfl (by first | rfl | assumption) (by decide) rfl ?_
      refine zi_iret h rfl ?_
      exact hP
  · exact absurd hc (by decide)
set_option maxRecDepth 20000 in
theorem s_isAny {fl : Bool} {d : Nat} {f : tw_S} {P : tw_S → Option tw_A → Prop} (h1 : p_any f → P f (some (tw_I 1))) (h2 : ¬ p_any f → P f (some (tw_I 0))) : tS fl (d + 3) 89 [tw_R 0] f P := by
  have e1 : tx_isE 23 := by simp [tx_isE]
  have e2 : tx_isE 45 := by simp [tx_isE]
  refine tw_Sp_of rfl rfl (Nat.le_of_ble_eq_true rfl) (fun X h => ?_)
  have loop : ∀ n u : Nat, u + n = 2 → (∀ j, j < u → ¬ (¬ (p_bit (f 17 11) j ∨ p_bit (f 39 11) j) ∧ ((∃ i, i < 16 ∧ ¬ f 24 (j * 16 + i) = 0) ∨ ∃ i, i < 16 ∧ ¬ f 46 (j * 16 + i) = 0))) → ∀ o, X 2 [some (tw_R 0), some (tw_I (nI u)), o] [] tx_L0 f := by
    intro n
    induction n with
    | zero =>
      intro u hu hz o
      obtain rfl : u = 2 := by omega
      refine zi_iload_n h rfl rfl ?_
      refine zn_iconst h 2 rfl rfl ?_
      first | refine zn_icmpge h rfl (by omega) (by omega) (fun hc => ?_) (fun hc => ?_) | refine zc_icmpge h rfl (fun hc => ?_) (fun hc => ?_)
      · refine zn_iconst h 0 rfl rfl ?_
        refine zi_zret h rfl (by first | exact Or.inl rfl | exact Or.inr rfl | exact tw_nz_01 _ | assumption) ?_
        exact h2 (fun ⟨j, g1, g2⟩ => hz j g1 g2)
      · omega
    | succ n ih =>
      intro u hu hz o
      have next : ¬ (¬ (p_bit (f 17 11) u ∨ p_bit (f 39 11) u) ∧ ((∃ i, i < 16 ∧ ¬ f 24 (u * 16 + i) = 0) ∨ ∃ i, i < 16 ∧ ¬ f 46 (u * 16 + i) = 0)) → ∀ o, X 35 [some (tw_R 0), some (tw_I (nI u)), o] [] tx_L0 f := by
        intro hn o
        have ih := ih (u + 1) (by omega) (fun j hj => by
          by_cases hju : j = u
          · rw [hju]; exact hn
          · exact hz j (by omega))
        first | refine zn_iinc h 1 rfl rfl rfl ?_ | refine zi_iinc h rfl rfl ?_
        refine zi_goto h rfl ?_
        exact ih _
      have owned : (p_bit (f 17 11) u ∨ p_bit (f 39 11) u) → X 15 [some (tw_R 0), some (tw_I (nI u)), o] [] tx_L0 f := by
        intro ho
        refine zn_iconst h 1 rfl rfl ?_
        refine zi_goto h rfl ?_
        refine zi_istore_n h rfl (Nat.le_of_ble_eq_true rfl) ?_
        refine zi_iload_n h rfl rfl ?_
        first | refine zb_ifne h rfl (fun hc => ?_) (fun hc => ?_) | refine zc_ifne h rfl (fun hc => ?_) (fun hc => ?_)
        · exact next (fun g => g.1 ho) _
        · exact absurd hc (by decide)
      refine zi_iload_n h rfl rfl ?_
      refine zn_iconst h 2 rfl rfl ?_
      first | refine zn_icmpge h rfl (by omega) (by omega) (fun hc => ?_) (fun hc => ?_) | refine zc_icmpge h rfl (fun hc => ?_) (fun hc => ?_)
      · omega
      · refine zi_aload_n h rfl rfl ?_
        refine zg_ref h rfl (by first | rfl | assumption) (by decide) rfl rfl ?_
        refine zi_iload_n h rfl rfl ?_
        refine zk_V h [_] rfl (by first | rfl | assumption) rfl rfl (Nat.le_of_ble_eq_true rfl) (s_owns (Or.inl rfl) (fun b1 => ?_) (fun b1 => ?_))
        · first | refine zb_ifne h rfl (fun hc => ?_) (fun hc => ?_) | refine zc_ifne h rfl (fun hc => ?_) (fun hc => ?_)
          · exact owned (Or.inl b1)
          · exact absurd hc (by decide)
        · first | refine zb_ifne h rfl (fun hc => ?_) (fun hc => ?_) | refine zc_ifne h rfl (fun hc => ?_) (fun hc => ?_)
          · exact absurd rfl hc
          · refine zi_aload_n h rfl rfl ?_
            refine zg_ref h rfl (by first | rfl | assumption) (by decide) rfl rfl ?_
            refine zi_iload_n h rfl rfl ?_
            refine zk_V h [_] rfl (by first | rfl | assumption) rfl rfl (Nat.le_of_ble_eq_true rfl) (s_owns (Or.inr rfl) (fun b2 => ?_) (fun b2 => ?_))
            · first | refine zb_ifeq h rfl (fun hc => ?_) (fun hc => ?_) | refine zc_ifeq h rfl (fun hc => ?_) (fun hc => ?_)
              · exact absurd hc (by decide)
              · exact owned (Or.inr b2)
            · have hno : ¬ (p_bit (f 17 11) u ∨ p_bit (f 39 11) u) := fun g => g.elim b1 b2
              first | refine zb_ifeq h rfl (fun hc => ?_) (fun hc => ?_) | refine zc_ifeq h rfl (fun hc => ?_) (fun hc => ?_)
              · refine zn_iconst h 0 rfl rfl ?_
                refine zi_istore_n h rfl (Nat.le_of_ble_eq_true rfl) ?_
                refine zi_iload_n h rfl rfl ?_
                first | refine zb_ifne h rfl (fun hc => ?_) (fun hc => ?_) | refine zc_ifne h rfl (fun hc => ?_) (fun hc => ?_)
                · exact absurd rfl hc
                · refine zi_aload_n h rfl rfl ?_
                  refine zg_ref h rfl (by first | rfl | assumption) (by decide) rfl rfl ?_
                  refine zg_ref h rfl (by first | rfl | assumption) (by decide) rfl rfl ?_
                  refine zi_iload_n h rfl rfl ?_
                  refine zk_V h [_] rfl (by first | rfl | assumption) rfl rfl (Nat.le_of_ble_eq_true rfl) (s_holdsOfVolume e1 (by omega) (fun g => ?_) (fun g => ?_))
                  · first | refine zb_ifne h rfl (fun hc => ?_) (fun hc => ?_) | refine zc_ifne h rfl (fun hc => ?_) (fun hc => ?_)
                    · refine zn_iconst h 1 rfl rfl ?_
                      refine zi_zret h rfl (by first | exact Or.inl rfl | exact Or.inr rfl | exact tw_nz_01 _ | assumption) ?_
                      exact h1 ⟨u, by omega, hno, Or.inl g⟩
                    · exact absurd hc (by decide)
                  · have g0 := g
                    first | refine zb_ifne h rfl (fun hc => ?_) (fun hc => ?_) | refine zc_ifne h rfl (fun hc => ?_) (fun hc => ?_)
                    · exact absurd rfl hc
                    · refine zi_aload_n h rfl rfl ?_
                      refine zg_ref h rfl (by first | rfl | assumption) (by decide) rfl rfl ?_
                      refine zg_ref h rfl (by first | rfl | assumption) (by decide) rfl rfl ?_
                      refine zi_iload_n h rfl rfl ?_
                      refine zk_V h [_] rfl (by first | rfl | assumption) rfl rfl (Nat.le_of_ble_eq_true rfl) (s_holdsOfVolume e2 (by omega) (fun g => ?_) (fun g => ?_))
                      · first | refine zb_ifeq h rfl (fun hc => ?_) (fun hc => ?_) | refine zc_ifeq h rfl (fun hc => ?_) (fun hc => ?_)
                        · exact absurd hc (by decide)
                        · refine zn_iconst h 1 rfl rfl ?_
                          refine zi_zret h rfl (by first | exact Or.inl rfl | exact Or.inr rfl | exact tw_nz_01 _ | assumption) ?_
                          exact h1 ⟨u, by omega, hno, Or.inr g⟩
                      · first | refine zb_ifeq h rfl (fun hc => ?_) (fun hc => ?_) | refine zc_ifeq h rfl (fun hc => ?_) (fun hc => ?_)
                        · exact next (fun v => v.2.elim g0 g) _
                        · exact absurd rfl hc
              · exact absurd rfl hc
  refine zn_iconst h 0 rfl rfl ?_
  refine zi_istore_n h rfl (Nat.le_of_ble_eq_true rfl) ?_
  exact loop 2 0 (by omega) (fun j hj => by omega) _
set_option maxRecDepth 20000 in
theorem s_share1 {fl : Bool} {d : Nat} {f : tw_S} {P : tw_S → Option tw_A → Prop} (hP : P (p_sh1 f) none) : tS fl (d + 1) 90 [tw_R 0, tw_I 1] f P := by
  refine tw_Sp_of rfl rfl (Nat.le_of_ble_eq_true rfl) (fun X h => ?_)
  have e : ∀ x : Int32, tw_up f 17 11 x 39 11 = f 39 11 := fun x => tw_off (by omega)
  refine zn_iconst h 3 rfl rfl ?_
  refine zi_aload_n h rfl rfl ?_
  refine zg_ref h rfl (by first | rfl | assumption) (by decide) rfl rfl ?_
  refine zg_int h rfl (by first | rfl | assumption) (by decide) rfl ?_
  refine zi_aload_n h rfl rfl ?_
  refine zg_ref h rfl (by first | rfl | assumption) (by decide) rfl rfl ?_
  refine zg_int h rfl (by first | rfl | assumption) (by decide) rfl ?_
  refine zi_ior h rfl ?_
  refine zi_iconst h rfl ?_
  refine zi_ixor h rfl ?_
  show X 10 _ _ _ _
  refine zi_iand h rfl ?_
  refine zi_istore_n h rfl (Nat.le_of_ble_eq_true rfl) ?_
  refine zi_aload_n h rfl rfl ?_
  refine zg_ref h rfl (by first | rfl | assumption) (by decide) rfl rfl ?_
  refine zg_int h rfl (by first | rfl | assumption) (by decide) rfl ?_
  refine zi_aload_n h rfl rfl ?_
  refine zg_ref h rfl (by first | rfl | assumption) (by decide) rfl rfl ?_
  refine zg_int h rfl (by first | rfl | assumption) (by decide) rfl ?_
  refine zi_iand h rfl ?_
  refine zi_istore_n h rfl (Nat.le_of_ble_eq_true rfl) ?_
  show X 20 _ _ _ _
  refine zi_aload_n h rfl rfl ?_
  refine zg_ref h rfl (by first | rfl | assumption) (by decide) rfl rfl ?_
  refine zi_dup h rfl rfl ?_
  refine zg_int h rfl (by first | rfl | assumption) (by decide) rfl ?_
  refine zi_iload_n h rfl rfl ?_
  refine zi_ior h rfl ?_
  refine zp_int h rfl (by first | rfl | assumption) (by decide) rfl ?_
  refine zi_iload_n h rfl rfl ?_
  first | refine zb_ifeq h rfl (fun hc => ?_) (fun hc => ?_) | refine zc_ifeq h rfl (fun hc => ?_) (fun hc => ?_)
  · exact absurd hc (by decide)
  · refine zi_aload_n h rfl rfl ?_
    refine zg_ref h rfl (by first | rfl | assumption) (by decide) rfl rfl ?_
    refine zi_dup h rfl rfl ?_
    refine zg_int h rfl (by first | rfl | assumption) (by decide) rfl ?_
    refine zi_iload_n h rfl rfl ?_
    refine zi_iconst h rfl ?_
    refine zi_ixor h rfl ?_
    refine zi_iand h rfl ?_
    refine zp_int h rfl (by first | rfl | assumption) (by decide) rfl ?_
    refine zi_goto h rfl ?_
    refine zi_vret h rfl ?_
    rw [e]
    exact hP
set_option maxRecDepth 20000 in
theorem s_share0 {fl : Bool} {d : Nat} {f : tw_S} {P : tw_S → Option tw_A → Prop} (hP : P (p_sh0 f) none) : tS fl (d + 1) 90 [tw_R 0, tw_I 0] f P := by
  refine tw_Sp_of rfl rfl (Nat.le_of_ble_eq_true rfl) (fun X h => ?_)
  refine zn_iconst h 3 rfl rfl ?_
  refine zi_aload_n h rfl rfl ?_
  refine zg_ref h rfl (by first | rfl | assumption) (by decide) rfl rfl ?_
  refine zg_int h rfl (by first | rfl | assumption) (by decide) rfl ?_
  refine zi_aload_n h rfl rfl ?_
  refine zg_ref h rfl (by first | rfl | assumption) (by decide) rfl rfl ?_
  refine zg_int h rfl (by first | rfl | assumption) (by decide) rfl ?_
  refine zi_ior h rfl ?_
  refine zi_iconst h rfl ?_
  refine zi_ixor h rfl ?_
  show X 10 _ _ _ _
  refine zi_iand h rfl ?_
  refine zi_istore_n h rfl (Nat.le_of_ble_eq_true rfl) ?_
  refine zi_aload_n h rfl rfl ?_
  refine zg_ref h rfl (by first | rfl | assumption) (by decide) rfl rfl ?_
  refine zg_int h rfl (by first | rfl | assumption) (by decide) rfl ?_
  refine zi_aload_n h rfl rfl ?_
  refine zg_ref h rfl (by first | rfl | assumption) (by decide) rfl rfl ?_
  refine zg_int h rfl (by first | rfl | assumption) (by decide) rfl ?_
  refine zi_iand h rfl ?_
  refine zi_istore_n h rfl (Nat.le_of_ble_eq_true rfl) ?_
  show X 20 _ _ _ _
  refine zi_aload_n h rfl rfl ?_
  refine zg_ref h rfl (by first | rfl | assumption) (by decide) rfl rfl ?_
  refine zi_dup h rfl rfl ?_
  refine zg_int h rfl (by first | rfl | assumption) (by decide) rfl ?_
  refine zi_iload_n h rfl rfl ?_
  refine zi_ior h rfl ?_
  refine zp_int h rfl (by first | rfl | assumption) (by decide) rfl ?_
  refine zi_iload_n h rfl rfl ?_
  first | refine zb_ifeq h rfl (fun hc => ?_) (fun hc => ?_) | refine zc_ifeq h rfl (fun hc => ?_) (fun hc => ?_)
  · refine zi_aload_n h rfl rfl ?_
    refine zg_ref h rfl (by first | rfl | assumption) (by decide) rfl rfl ?_
    refine zi_dup h rfl rfl ?_
    refine zg_int h rfl (by first | rfl | assumption) (by decide) rfl ?_
    refine zi_iload_n h rfl rfl ?_
    refine zi_iconst h rfl ?_
    refine zi_ixor h rfl ?_
    refine zi_iand h rfl ?_
    refine zp_int h rfl (by first | rfl | assumption) (by decide) rfl ?_
    refine zi_vret h rfl ?_
    refine tw_memP (fun c j => ?_) hP
    unfold p_sh0 tw_up
    simp only [and_self, if_true]
    split
    · rfl
    · rfl
  · exact absurd rfl hc
set_option maxRecDepth 20000 in
theorem s_pair {fl : Bool} {d : Nat} {f : tw_S} {P : tw_S → Option tw_A → Prop} (h0 : ¬ (f 0 5 = 0 ∧ p_rdy f 17 ∧ p_rdy f 39) → P f (some (tw_I 0))) (h1 : (f 0 5 = 0 ∧ p_rdy f 17 ∧ p_rdy f 39) → ¬ p_other (f 2) (f 3) (f 17 10) 5 = 0 → ¬ p_other (f 2) (f 3) (f 39 10) 5 = 0 → P f (some (tw_I 0))) (h2 : (f 0 5 = 0 ∧ p_rdy f 17 ∧ p_rdy f 39) → (p_other (f 2) (f 3) (f 17 10) 5 = 0 ∨ p_other (f 2) (f 3) (f 39 10) 5 = 0) → p_any f → P f (some (tw_I 0))) (h3 : (f 0 5 = 0 ∧ p_rdy f 17 ∧ p_rdy f 39) → p_other (f 2) (f 3) (f 17 10) 5 = 0 → ¬ p_any f → P (p_begin (p_begin (p_sh1 f) 17 (f 17 10)) 39 (f 17 10)) (some (tw_I 1))) (h4 : (f 0 5 = 0 ∧ p_rdy f 17 ∧ p_rdy f 39) → ¬ p_other (f 2) (f 3) (f 17 10) 5 = 0 → p_other (f 2) (f 3) (f 39 10) 5 = 0 → ¬ p_any f → P (p_begin (p_begin (p_sh0 f) 17 (f 39 10)) 39 (f 39 10)) (some (tw_I 1))) : tS fl (d + 4) 91 [tw_R 0] f P := by
  have o1 := p_other_le (f 2) (f 3) (f 17 10) 5
  have o2 := p_other_le (f 2) (f 3) (f 39 10) 5
  refine tw_Sp_of rfl rfl (Nat.le_of_ble_eq_true rfl) (fun X h => ?_)
  have no : ¬ (f 0 5 = 0 ∧ p_rdy f 17 ∧ p_rdy f 39) → X 11 [some (tw_R 0), none, none] [] tx_L0 f := by
    intro g
    refine zn_iconst h 0 rfl rfl ?_
    refine zi_zret h rfl (by first | exact Or.inl rfl | exact Or.inr rfl | exact tw_nz_01 _ | assumption) ?_
    exact h0 g
  refine zi_aload_n h rfl rfl ?_
  refine zg_boo h rfl (by first | rfl | assumption) (by decide) rfl ?_
  first | refine zb_ifne h rfl (fun hc => ?_) (fun hc => ?_) | refine zc_ifne h rfl (fun hc => ?_) (fun hc => ?_)
  · exact no (fun g => hc g.1)
  · have c0 := hc
    refine zi_aload_n h rfl rfl ?_
    refine zg_ref h rfl (by first | rfl | assumption) (by decide) rfl rfl ?_
    refine zk_V h [] rfl (by first | rfl | assumption) rfl rfl (Nat.le_of_ble_eq_true rfl) (s_isReadyToPair (Or.inl rfl) (fun r1 => ?_) (fun r1 => ?_))
    · first | refine zb_ifeq h rfl (fun hc => ?_) (fun hc => ?_) | refine zc_ifeq h rfl (fun hc => ?_) (fun hc => ?_)
      · exact absurd hc (by decide)
      · refine zi_aload_n h rfl rfl ?_
        refine zg_ref h rfl (by first | rfl | assumption) (by decide) rfl rfl ?_
        refine zk_V h [] rfl (by first | rfl | assumption) rfl rfl (Nat.le_of_ble_eq_true rfl) (s_isReadyToPair (Or.inr rfl) (fun r2 => ?_) (fun r2 => ?_))
        · have cr : f 0 5 = 0 ∧ p_rdy f 17 ∧ p_rdy f 39 := ⟨c0, r1, r2⟩
          first | refine zb_ifne h rfl (fun hc => ?_) (fun hc => ?_) | refine zc_ifne h rfl (fun hc => ?_) (fun hc => ?_)
          · refine zi_aload_n h rfl rfl ?_
            refine zg_ref h rfl (by first | rfl | assumption) (by decide) rfl rfl ?_
            refine zi_aload_n h rfl rfl ?_
            refine zg_ref h rfl (by first | rfl | assumption) (by decide) rfl rfl ?_
            refine zg_int h rfl (by first | rfl | assumption) (by decide) rfl ?_
            refine zk_V h [_] rfl (by first | rfl | assumption) rfl rfl (Nat.le_of_ble_eq_true rfl) (s_withOther ?_)
            refine zc_ifne h rfl (fun hc => ?_) (fun hc => ?_)
            · have k1 : ¬ p_other (f 2) (f 3) (f 17 10) 5 = 0 := fun u => hc ((nI_zero (by omega)).mpr u)
              refine zn_iconst h 0 rfl rfl ?_
              refine zi_istore_n h rfl (Nat.le_of_ble_eq_true rfl) ?_
              refine zi_iload_n h rfl rfl ?_
              first | refine zb_ifne h rfl (fun hc => ?_) (fun hc => ?_) | refine zc_ifne h rfl (fun hc => ?_) (fun hc => ?_)
              · exact absurd rfl hc
              · refine zi_aload_n h rfl rfl ?_
                refine zg_ref h rfl (by first | rfl | assumption) (by decide) rfl rfl ?_
                refine zi_aload_n h rfl rfl ?_
                refine zg_ref h rfl (by first | rfl | assumption) (by decide) rfl rfl ?_
                refine zg_int h rfl (by first | rfl | assumption) (by decide) rfl ?_
                refine zk_V h [_] rfl (by first | rfl | assumption) rfl rfl (Nat.le_of_ble_eq_true rfl) (s_withOther ?_)
                refine zc_ifeq h rfl (fun hc => ?_) (fun hc => ?_)
                · have k2 := (nI_zero (by omega)).mp hc
                  refine zi_aload_n h rfl rfl ?_
                  refine zk_V h [] rfl (by first | rfl | assumption) rfl rfl (Nat.le_of_ble_eq_true rfl) (s_isAny (fun g => ?_) (fun g => ?_))
                  · first | refine zb_ifeq h rfl (fun hc => ?_) (fun hc => ?_) | refine zc_ifeq h rfl (fun hc => ?_) (fun hc => ?_)
                    · exact absurd hc (by decide)
                    · refine zn_iconst h 0 rfl rfl ?_
                      refine zi_zret h rfl (by first | exact Or.inl rfl | exact Or.inr rfl | exact tw_nz_01 _ | assumption) ?_
                      exact h2 cr (Or.inr k2) g
                  · first | refine zb_ifeq h rfl (fun hc => ?_) (fun hc => ?_) | refine zc_ifeq h rfl (fun hc => ?_) (fun hc => ?_)
                    · refine zi_iload_n h rfl rfl ?_
                      first | refine zb_ifeq h rfl (fun hc => ?_) (fun hc => ?_) | refine zc_ifeq h rfl (fun hc => ?_) (fun hc => ?_)
                      · refine zi_aload_n h rfl rfl ?_
                        refine zg_ref h rfl (by first | rfl | assumption) (by decide) rfl rfl ?_
                        refine zg_int h rfl (by first | rfl | assumption) (by decide) rfl ?_
                        refine zi_istore_n h rfl (Nat.le_of_ble_eq_true rfl) ?_
                        refine zi_aload_n h rfl rfl ?_
                        refine zi_iload_n h rfl rfl ?_
                        refine zk_V h [_] rfl (by first | rfl | assumption) rfl rfl (Nat.le_of_ble_eq_true rfl) (s_share0 ?_)
                        refine zi_aload_n h rfl rfl ?_
                        refine zg_ref h rfl (by first | rfl | assumption) (by decide) rfl rfl ?_
                        refine zi_iload_n h rfl rfl ?_
                        refine zk_V h [_] rfl (by first | rfl | assumption) rfl rfl (Nat.le_of_ble_eq_true rfl) (s_beginPaired (Or.inl rfl) ?_)
                        refine zi_aload_n h rfl rfl ?_
                        refine zg_ref h rfl (by first | rfl | assumption) (by decide) rfl rfl ?_
                        refine zi_iload_n h rfl rfl ?_
                        refine zk_V h [_] rfl (by first | rfl | assumption) rfl rfl (Nat.le_of_ble_eq_true rfl) (s_beginPaired (Or.inr rfl) ?_)
                        refine zn_iconst h 1 rfl rfl ?_
                        refine zi_zret h rfl (by first | exact Or.inl rfl | exact Or.inr rfl | exact tw_nz_01 _ | assumption) ?_
                        exact h4 cr k1 k2 g
                      · exact absurd rfl hc
                    · exact absurd rfl hc
                · have k2 : ¬ p_other (f 2) (f 3) (f 39 10) 5 = 0 := fun u => hc ((nI_zero (by omega)).mpr u)
                  refine zn_iconst h 0 rfl rfl ?_
                  refine zi_zret h rfl (by first | exact Or.inl rfl | exact Or.inr rfl | exact tw_nz_01 _ | assumption) ?_
                  exact h1 cr k1 k2
            · have k1 := (nI_zero (by omega)).mp hc
              refine zn_iconst h 1 rfl rfl ?_
              refine zi_goto h rfl ?_
              refine zi_istore_n h rfl (Nat.le_of_ble_eq_true rfl) ?_
              refine zi_iload_n h rfl rfl ?_
              first | refine zb_ifne h rfl (fun hc => ?_) (fun hc => ?_) | refine zc_ifne h rfl (fun hc => ?_) (fun hc => ?_)
              · refine zi_aload_n h rfl rfl ?_
                refine zk_V h [] rfl (by first | rfl | assumption) rfl rfl (Nat.le_of_ble_eq_true rfl) (s_isAny (fun g => ?_) (fun g => ?_))
                · first | refine zb_ifeq h rfl (fun hc => ?_) (fun hc => ?_) | refine zc_ifeq h rfl (fun hc => ?_) (fun hc => ?_)
                  · exact absurd hc (by decide)
                  · refine zn_iconst h 0 rfl rfl ?_
                    refine zi_zret h rfl (by first | exact Or.inl rfl | exact Or.inr rfl | exact tw_nz_01 _ | assumption) ?_
                    exact h2 cr (Or.inl k1) g
                · first | refine zb_ifeq h rfl (fun hc => ?_) (fun hc => ?_) | refine zc_ifeq h rfl (fun hc => ?_) (fun hc => ?_)
                  · refine zi_iload_n h rfl rfl ?_
                    first | refine zb_ifeq h rfl (fun hc => ?_) (fun hc => ?_) | refine zc_ifeq h rfl (fun hc => ?_) (fun hc => ?_)
                    · exact absurd hc (by decide)
                    · refine zi_aload_n h rfl rfl ?_
                      refine zg_ref h rfl (by first | rfl | assumption) (by decide) rfl rfl ?_
                      refine zg_int h rfl (by first | rfl | assumption) (by decide) rfl ?_
                      refine zi_goto h rfl ?_
                      refine zi_istore_n h rfl (Nat.le_of_ble_eq_true rfl) ?_
                      refine zi_aload_n h rfl rfl ?_
                      refine zi_iload_n h rfl rfl ?_
                      refine zk_V h [_] rfl (by first | rfl | assumption) rfl rfl (Nat.le_of_ble_eq_true rfl) (s_share1 ?_)
                      refine zi_aload_n h rfl rfl ?_
                      refine zg_ref h rfl (by first | rfl | assumption) (by decide) rfl rfl ?_
                      refine zi_iload_n h rfl rfl ?_
                      refine zk_V h [_] rfl (by first | rfl | assumption) rfl rfl (Nat.le_of_ble_eq_true rfl) (s_beginPaired (Or.inl rfl) ?_)
                      refine zi_aload_n h rfl rfl ?_
                      refine zg_ref h rfl (by first | rfl | assumption) (by decide) rfl rfl ?_
                      refine zi_iload_n h rfl rfl ?_
                      refine zk_V h [_] rfl (by first | rfl | assumption) rfl rfl (Nat.le_of_ble_eq_true rfl) (s_beginPaired (Or.inr rfl) ?_)
                      refine zn_iconst h 1 rfl rfl ?_
                      refine zi_zret h rfl (by first | exact Or.inl rfl | exact Or.inr rfl | exact tw_nz_01 _ | assumption) ?_
                      exact h3 cr k1 g
                  · exact absurd rfl hc
              · exact absurd hc (by decide)
          · exact absurd hc (by decide)
        · first | refine zb_ifne h rfl (fun hc => ?_) (fun hc => ?_) | refine zc_ifne h rfl (fun hc => ?_) (fun hc => ?_)
          · exact absurd rfl hc
          · exact no (fun g => r2 g.2.2)
    · first | refine zb_ifeq h rfl (fun hc => ?_) (fun hc => ?_) | refine zc_ifeq h rfl (fun hc => ?_) (fun hc => ?_)
      · exact no (fun g => r1 g.2.1)
      · exact absurd rfl hc
set_option maxRecDepth 20000 in
theorem s_vol1 {fl : Bool} {d : Nat} {f : tw_S} {P : tw_S → Option tw_A → Prop} {i : Nat} (hi : i < 2) (hP : P f (some (tw_I 1))) : tS fl (d + 1) 93 [tw_I (nI i)] f P := s_isVolume (fun _ _ _ => hP) (fun g => by
  rcases g with g | g
  · exact absurd g (nI_pos (by omega))
  · exact absurd ((nI_leI (by omega) (by omega)).mp g) (by omega))
set_option maxRecDepth 20000 in
theorem s_vol0 {fl : Bool} {d : Nat} {f : tw_S} {P : tw_S → Option tw_A → Prop} {x : Int32} (hx : x < 0 ∨ nI 2 ≤ x) (hP : P f (some (tw_I 0))) : tS fl (d + 1) 93 [tw_I x] f P := s_isVolume (fun j h1 h2 => by
  subst h2
  rcases hx with g | g
  · exact absurd g (nI_pos (by omega))
  · exact absurd ((nI_leI (by omega) (by omega)).mp g) (by omega)) (fun _ => hP)
set_option maxRecDepth 20000 in
theorem s_moveOwner_x {fl : Bool} {d : Nat} {f : tw_S} {P : tw_S → Option tw_A → Prop} {x : Int32} (hx : x < 0 ∨ nI 2 ≤ x) (hP : P f (some (tw_I 0))) : tS fl (d + 3) 94 [tw_R 0, tw_I x] f P := by
  refine tw_Sp_of rfl rfl (Nat.le_of_ble_eq_true rfl) (fun X h => ?_)
  refine zi_iload_n h rfl rfl ?_
  refine zk_S h [_] rfl rfl rfl (Nat.le_of_ble_eq_true rfl) (s_vol0 hx ?_)
  first | refine zb_ifeq h rfl (fun hc => ?_) (fun hc => ?_) | refine zc_ifeq h rfl (fun hc => ?_) (fun hc => ?_)
  · refine zn_iconst h 0 rfl rfl ?_
    refine zi_zret h rfl (by first | exact Or.inl rfl | exact Or.inr rfl | exact tw_nz_01 _ | assumption) ?_
    exact hP
  · exact absurd rfl hc
set_option maxRecDepth 20000 in
theorem s_moveOwner_u {fl : Bool} {d : Nat} {f : tw_S} {P : tw_S → Option tw_A → Prop} {u m0 m1 : Nat} (hu : u < 2) (hn0 : f 17 0 = 0) (hn1 : f 39 0 = 1) (hm0 : f 28 6 = nI m0) (hm0b : m0 ≤ 40) (hm1 : f 50 6 = nI m1) (hm1b : m1 ≤ 40) (h0 : ¬ (¬ f 17 6 = 0 ∧ ¬ f 39 6 = 0 ∧ ¬ f 17 7 = 0 ∧ ¬ f 39 7 = 0) → P f (some (tw_I 0))) (h1 : (¬ f 17 6 = 0 ∧ ¬ f 39 6 = 0 ∧ ¬ f 17 7 = 0 ∧ ¬ f 39 7 = 0) → (p_bit (f 17 11) u ↔ p_bit (f 39 11) u) → P f (some (tw_I 0))) (h2 : (¬ f 17 6 = 0 ∧ ¬ f 39 6 = 0 ∧ ¬ f 17 7 = 0 ∧ ¬ f 39 7 = 0) → ¬ (p_bit (f 17 11) u ↔ p_bit (f 39 11) u) → ¬ (m0 = 0 ∧ m1 = 0) → P f (some (tw_I 0))) (h3 : (¬ f 17 6 = 0 ∧ ¬ f 39 6 = 0 ∧ ¬ f 17 7 = 0 ∧ ¬ f 39 7 = 0) → (m0 = 0 ∧ m1 = 0) → p_bit (f 17 11) u → ¬ p_bit (f 39 11) u → p_busy f 17 u → P f (some (tw_I 0))) (h4 : (¬ f 17 6 = 0 ∧ ¬ f 39 6 = 0 ∧ ¬ f 17 7 = 0 ∧ ¬ f 39 7 = 0) → (m0 = 0 ∧ m1 = 0) → p_bit (f 17 11) u → ¬ p_bit (f 39 11) u → ¬ p_busy f 17 u → P (p_move f 17 39 u) (some (tw_I 1))) (h5 : (¬ f 17 6 = 0 ∧ ¬ f 39 6 = 0 ∧ ¬ f 17 7 = 0 ∧ ¬ f 39 7 = 0) → (m0 = 0 ∧ m1 = 0) → ¬ p_bit (f 17 11) u → p_bit (f 39 11) u → p_busy f 39 u → P f (some (tw_I 0))) (h6 : (¬ f 17 6 = 0 ∧ ¬ f 39 6 = 0 ∧ ¬ f 17 7 = 0 ∧ ¬ f 39 7 = 0) → (m0 = 0 ∧ m1 = 0) → ¬ p_bit (f 17 11) u → p_bit (f 39 11) u → ¬ p_busy f 39 u → P (p_move f 39 17 u) (some (tw_I 1))) : tS fl (d + 3) 94 [tw_R 0, tw_I (nI u)] f P := by
  have e1 : tx_isE 18 := by simp [tx_isE]
  have e2 : tx_isE 23 := by simp [tx_isE]
  have e3 : tx_isE 40 := by simp [tx_isE]
  have e4 : tx_isE 45 := by simp [tx_isE]
  refine tw_Sp_of rfl rfl (Nat.le_of_ble_eq_true rfl) (fun X h => ?_)
  have no : ¬ (¬ f 17 6 = 0 ∧ ¬ f 39 6 = 0 ∧ ¬ f 17 7 = 0 ∧ ¬ f 39 7 = 0) → X 19 [some (tw_R 0), some (tw_I (nI u)), none, none] [] tx_L0 f := by
    intro g
    refine zn_iconst h 0 rfl rfl ?_
    refine zi_zret h rfl (by first | exact Or.inl rfl | exact Or.inr rfl | exact tw_nz_01 _ | assumption) ?_
    exact h0 g
  have cnt : (¬ f 17 6 = 0 ∧ ¬ f 39 6 = 0 ∧ ¬ f 17 7 = 0 ∧ ¬ f 39 7 = 0) → ¬ (p_bit (f 17 11) u ↔ p_bit (f 39 11) u) → ((m0 = 0 ∧ m1 = 0) → X 42 [some (tw_R 0), some (tw_I (nI u)), none, none] [] tx_L0 f) → X 30 [some (tw_R 0), some (tw_I (nI u)), none, none] [] tx_L0 f := by
    intro ca cb k
    refine zi_aload_n h rfl rfl ?_
    refine zg_ref h rfl (by first | rfl | assumption) (by decide) rfl rfl ?_
    refine zg_ref h rfl (by first | rfl | assumption) (by decide) rfl rfl ?_
    refine zg_nat h m0 rfl (by first | rfl | assumption) (by decide) rfl hm0 ?_
    refine zi_aload_n h rfl rfl ?_
    refine zg_ref h rfl (by first | rfl | assumption) (by decide) rfl rfl ?_
    refine zg_ref h rfl (by first | rfl | assumption) (by decide) rfl rfl ?_
    refine zg_nat h m1 rfl (by first | rfl | assumption) (by decide) rfl hm1 ?_
    first | refine zn_iadd h rfl ?_ | refine zi_iadd h rfl ?_
    refine zc_ifeq h rfl (fun hc => ?_) (fun hc => ?_)
    · have := (nI_zero (by omega)).mp hc
      exact k (by omega)
    · have hne : ¬ (m0 = 0 ∧ m1 = 0) := fun g => by
        obtain ⟨rfl, rfl⟩ := g
        exact hc rfl
      refine zn_iconst h 0 rfl rfl ?_
      refine zi_zret h rfl (by first | exact Or.inl rfl | exact Or.inr rfl | exact tw_nz_01 _ | assumption) ?_
      exact h2 ca cb hne
  refine zi_iload_n h rfl rfl ?_
  refine zk_S h [_] rfl rfl rfl (Nat.le_of_ble_eq_true rfl) (s_vol1 hu ?_)
  first | refine zb_ifeq h rfl (fun hc => ?_) (fun hc => ?_) | refine zc_ifeq h rfl (fun hc => ?_) (fun hc => ?_)
  · exact absurd hc (by decide)
  · refine zi_aload_n h rfl rfl ?_
    refine zg_ref h rfl (by first | rfl | assumption) (by decide) rfl rfl ?_
    refine zg_boo h rfl (by first | rfl | assumption) (by decide) rfl ?_
    first | refine zb_ifeq h rfl (fun hc => ?_) (fun hc => ?_) | refine zc_ifeq h rfl (fun hc => ?_) (fun hc => ?_)
    · exact no (fun g => g.1 hc)
    · have c1 := hc
      refine zi_aload_n h rfl rfl ?_
      refine zg_ref h rfl (by first | rfl | assumption) (by decide) rfl rfl ?_
      refine zg_boo h rfl (by first | rfl | assumption) (by decide) rfl ?_
      first | refine zb_ifeq h rfl (fun hc => ?_) (fun hc => ?_) | refine zc_ifeq h rfl (fun hc => ?_) (fun hc => ?_)
      · exact no (fun g => g.2.1 hc)
      · have c2 := hc
        refine zi_aload_n h rfl rfl ?_
        refine zg_ref h rfl (by first | rfl | assumption) (by decide) rfl rfl ?_
        refine zg_boo h rfl (by first | rfl | assumption) (by decide) rfl ?_
        first | refine zb_ifeq h rfl (fun hc => ?_) (fun hc => ?_) | refine zc_ifeq h rfl (fun hc => ?_) (fun hc => ?_)
        · exact no (fun g => g.2.2.1 hc)
        · have c3 := hc
          refine zi_aload_n h rfl rfl ?_
          refine zg_ref h rfl (by first | rfl | assumption) (by decide) rfl rfl ?_
          refine zg_boo h rfl (by first | rfl | assumption) (by decide) rfl ?_
          first | refine zb_ifne h rfl (fun hc => ?_) (fun hc => ?_) | refine zc_ifne h rfl (fun hc => ?_) (fun hc => ?_)
          · have ca : ¬ f 17 6 = 0 ∧ ¬ f 39 6 = 0 ∧ ¬ f 17 7 = 0 ∧ ¬ f 39 7 = 0 := ⟨c1, c2, c3, hc⟩
            refine zi_aload_n h rfl rfl ?_
            refine zg_ref h rfl (by first | rfl | assumption) (by decide) rfl rfl ?_
            refine zi_iload_n h rfl rfl ?_
            refine zk_V h [_] rfl (by first | rfl | assumption) rfl rfl (Nat.le_of_ble_eq_true rfl) (s_owns (Or.inl rfl) (fun b1 => ?_) (fun b1 => ?_))
            · refine zi_aload_n h rfl rfl ?_
              refine zg_ref h rfl (by first | rfl | assumption) (by decide) rfl rfl ?_
              refine zi_iload_n h rfl rfl ?_
              refine zk_V h [_] rfl (by first | rfl | assumption) rfl rfl (Nat.le_of_ble_eq_true rfl) (s_owns (Or.inr rfl) (fun b2 => ?_) (fun b2 => ?_))
              · refine zc_icmpeq h rfl (fun hc => ?_) (fun hc => ?_)
                · refine zn_iconst h 0 rfl rfl ?_
                  refine zi_zret h rfl (by first | exact Or.inl rfl | exact Or.inr rfl | exact tw_nz_01 _ | assumption) ?_
                  exact h1 ca ⟨fun _ => b2, fun _ => b1⟩
                · exact absurd rfl hc
              · refine zc_icmpeq h rfl (fun hc => ?_) (fun hc => ?_)
                · exact absurd hc (by decide)
                · refine cnt ca (fun g => b2 (g.mp b1)) (fun hm => ?_)
                  refine zi_aload_n h rfl rfl ?_
                  refine zg_ref h rfl (by first | rfl | assumption) (by decide) rfl rfl ?_
                  refine zi_iload_n h rfl rfl ?_
                  refine zk_V h [_] rfl (by first | rfl | assumption) rfl rfl (Nat.le_of_ble_eq_true rfl) (s_owns (Or.inl rfl) (fun _ => ?_) (fun b => absurd b1 b))
                  first | refine zb_ifeq h rfl (fun hc => ?_) (fun hc => ?_) | refine zc_ifeq h rfl (fun hc => ?_) (fun hc => ?_)
                  · exact absurd hc (by decide)
                  · refine zi_aload_n h rfl rfl ?_
                    refine zg_ref h rfl (by first | rfl | assumption) (by decide) rfl rfl ?_
                    refine zi_goto h rfl ?_
                    refine zi_astore_n h rfl (Nat.le_of_ble_eq_true rfl) ?_
                    refine zi_aload_n h rfl rfl ?_
                    refine zi_iload_n h rfl rfl ?_
                    refine zk_V h [_] rfl (by first | rfl | assumption) rfl rfl (Nat.le_of_ble_eq_true rfl) (s_isBusyIn (Or.inl rfl) hu (fun g => ?_) (fun g => ?_))
                    · first | refine zb_ifeq h rfl (fun hc => ?_) (fun hc => ?_) | refine zc_ifeq h rfl (fun hc => ?_) (fun hc => ?_)
                      · exact absurd hc (by decide)
                      · refine zn_iconst h 0 rfl rfl ?_
                        refine zi_zret h rfl (by first | exact Or.inl rfl | exact Or.inr rfl | exact tw_nz_01 _ | assumption) ?_
                        exact h3 ca hm b1 b2 g
                    · first | refine zb_ifeq h rfl (fun hc => ?_) (fun hc => ?_) | refine zc_ifeq h rfl (fun hc => ?_) (fun hc => ?_)
                      · refine zi_aload_n h rfl rfl ?_
                        refine zi_aload_n h rfl rfl ?_
                        refine zk_V h [_] rfl (by first | rfl | assumption) rfl rfl (Nat.le_of_ble_eq_true rfl) (s_partnerOf (Or.inl rfl) hn0 ?_)
                        refine zi_astore_n h rfl (Nat.le_of_ble_eq_true rfl) ?_
                        refine zi_aload_n h rfl rfl ?_
                        refine zi_dup h rfl rfl ?_
                        refine zg_int h rfl (by first | rfl | assumption) (by decide) rfl ?_
                        refine zn_iconst h 1 rfl rfl ?_
                        refine zi_iload_n h rfl rfl ?_
                        refine zi_ishl h rfl ?_
                        refine zi_iconst h rfl ?_
                        refine zi_ixor h rfl ?_
                        refine zi_iand h rfl ?_
                        show X 72 _ _ _ _
                        refine zp_int h rfl (by first | rfl | assumption) (by decide) rfl ?_
                        refine zi_aload_n h rfl rfl ?_
                        refine zi_dup h rfl rfl ?_
                        refine zg_int h rfl (by first | rfl | assumption) (by decide) rfl ?_
                        refine zn_iconst h 1 rfl rfl ?_
                        refine zi_iload_n h rfl rfl ?_
                        refine zi_ishl h rfl ?_
                        refine zi_ior h rfl ?_
                        refine zp_int h rfl (by first | rfl | assumption) (by decide) rfl ?_
                        refine zi_aload_n h rfl rfl ?_
                        show X 82 _ _ _ _
                        refine zg_ref h rfl (by first | rfl | assumption) (by decide) rfl rfl ?_
                        refine zi_iload_n h rfl rfl ?_
                        refine zk_V h [_] rfl (by first | rfl | assumption) rfl rfl (Nat.le_of_ble_eq_true rfl) (s_dropVolume e1 hu ?_)
                        refine zi_aload_n h rfl rfl ?_
                        refine zg_ref h rfl (by first | rfl | assumption) (by decide) rfl rfl ?_
                        refine zi_iload_n h rfl rfl ?_
                        refine zk_V h [_] rfl (by first | rfl | assumption) rfl rfl (Nat.le_of_ble_eq_true rfl) (s_dropVolume e4 hu ?_)
                        refine zn_iconst h 1 rfl rfl ?_
                        refine zi_zret h rfl (by first | exact Or.inl rfl | exact Or.inr rfl | exact tw_nz_01 _ | assumption) ?_
                        have h4 := h4 ca hm b1 b2 g
                        unfold p_move at h4
                        rw [show f 39 11 = tw_up f 17 11 (f 17 11 &&& (1 <<< (nI u &&& 31) ^^^ -1)) 39 11 from (tw_off (by omega)).symm] at h4
                        exact h4
                      · exact absurd rfl hc
            · refine zi_aload_n h rfl rfl ?_
              refine zg_ref h rfl (by first | rfl | assumption) (by decide) rfl rfl ?_
              refine zi_iload_n h rfl rfl ?_
              refine zk_V h [_] rfl (by first | rfl | assumption) rfl rfl (Nat.le_of_ble_eq_true rfl) (s_owns (Or.inr rfl) (fun b2 => ?_) (fun b2 => ?_))
              · refine zc_icmpeq h rfl (fun hc => ?_) (fun hc => ?_)
                · exact absurd hc (by decide)
                · refine cnt ca (fun g => b1 (g.mpr b2)) (fun hm => ?_)
                  refine zi_aload_n h rfl rfl ?_
                  refine zg_ref h rfl (by first | rfl | assumption) (by decide) rfl rfl ?_
                  refine zi_iload_n h rfl rfl ?_
                  refine zk_V h [_] rfl (by first | rfl | assumption) rfl rfl (Nat.le_of_ble_eq_true rfl) (s_owns (Or.inl rfl) (fun b => absurd b b1) (fun _ => ?_))
                  first | refine zb_ifeq h rfl (fun hc => ?_) (fun hc => ?_) | refine zc_ifeq h rfl (fun hc => ?_) (fun hc => ?_)
                  · refine zi_aload_n h rfl rfl ?_
                    refine zg_ref h rfl (by first | rfl | assumption) (by decide) rfl rfl ?_
                    refine zi_astore_n h rfl (Nat.le_of_ble_eq_true rfl) ?_
                    refine zi_aload_n h rfl rfl ?_
                    refine zi_iload_n h rfl rfl ?_
                    refine zk_V h [_] rfl (by first | rfl | assumption) rfl rfl (Nat.le_of_ble_eq_true rfl) (s_isBusyIn (Or.inr rfl) hu (fun g => ?_) (fun g => ?_))
                    · first | refine zb_ifeq h rfl (fun hc => ?_) (fun hc => ?_) | refine zc_ifeq h rfl (fun hc => ?_) (fun hc => ?_)
                      · exact absurd hc (by decide)
                      · refine zn_iconst h 0 rfl rfl ?_
                        refine zi_zret h rfl (by first | exact Or.inl rfl | exact Or.inr rfl | exact tw_nz_01 _ | assumption) ?_
                        exact h5 ca hm b1 b2 g
                    · first | refine zb_ifeq h rfl (fun hc => ?_) (fun hc => ?_) | refine zc_ifeq h rfl (fun hc => ?_) (fun hc => ?_)
                      · refine zi_aload_n h rfl rfl ?_
                        refine zi_aload_n h rfl rfl ?_
                        refine zk_V h [_] rfl (by first | rfl | assumption) rfl rfl (Nat.le_of_ble_eq_true rfl) (s_partnerOf (Or.inr rfl) hn1 ?_)
                        refine zi_astore_n h rfl (Nat.le_of_ble_eq_true rfl) ?_
                        refine zi_aload_n h rfl rfl ?_
                        refine zi_dup h rfl rfl ?_
                        refine zg_int h rfl (by first | rfl | assumption) (by decide) rfl ?_
                        refine zn_iconst h 1 rfl rfl ?_
                        refine zi_iload_n h rfl rfl ?_
                        refine zi_ishl h rfl ?_
                        refine zi_iconst h rfl ?_
                        refine zi_ixor h rfl ?_
                        refine zi_iand h rfl ?_
                        show X 72 _ _ _ _
                        refine zp_int h rfl (by first | rfl | assumption) (by decide) rfl ?_
                        refine zi_aload_n h rfl rfl ?_
                        refine zi_dup h rfl rfl ?_
                        refine zg_int h rfl (by first | rfl | assumption) (by decide) rfl ?_
                        refine zn_iconst h 1 rfl rfl ?_
                        refine zi_iload_n h rfl rfl ?_
                        refine zi_ishl h rfl ?_
                        refine zi_ior h rfl ?_
                        refine zp_int h rfl (by first | rfl | assumption) (by decide) rfl ?_
                        refine zi_aload_n h rfl rfl ?_
                        show X 82 _ _ _ _
                        refine zg_ref h rfl (by first | rfl | assumption) (by decide) rfl rfl ?_
                        refine zi_iload_n h rfl rfl ?_
                        refine zk_V h [_] rfl (by first | rfl | assumption) rfl rfl (Nat.le_of_ble_eq_true rfl) (s_dropVolume e3 hu ?_)
                        refine zi_aload_n h rfl rfl ?_
                        refine zg_ref h rfl (by first | rfl | assumption) (by decide) rfl rfl ?_
                        refine zi_iload_n h rfl rfl ?_
                        refine zk_V h [_] rfl (by first | rfl | assumption) rfl rfl (Nat.le_of_ble_eq_true rfl) (s_dropVolume e2 hu ?_)
                        refine zn_iconst h 1 rfl rfl ?_
                        refine zi_zret h rfl (by first | exact Or.inl rfl | exact Or.inr rfl | exact tw_nz_01 _ | assumption) ?_
                        have h6 := h6 ca hm b1 b2 g
                        unfold p_move at h6
                        rw [show f 17 11 = tw_up f 39 11 (f 39 11 &&& (1 <<< (nI u &&& 31) ^^^ -1)) 17 11 from (tw_off (by omega)).symm] at h6
                        exact h6
                      · exact absurd rfl hc
                  · exact absurd rfl hc
              · refine zc_icmpeq h rfl (fun hc => ?_) (fun hc => ?_)
                · refine zn_iconst h 0 rfl rfl ?_
                  refine zi_zret h rfl (by first | exact Or.inl rfl | exact Or.inr rfl | exact tw_nz_01 _ | assumption) ?_
                  exact h1 ca ⟨fun g => absurd g b1, fun g => absurd g b2⟩
                · exact absurd rfl hc
          · exact no (fun g => g.2.2.2 hc)
