/-! TwinArray's public methods: write, read, late, tickets, step, arrive. -/
set_option maxRecDepth 20000 in
theorem s_blk1 {fl : Bool} {d : Nat} {f : tw_S} {P : tw_S → Option tw_A → Prop} {i : Nat} (hi : i < 32) (hP : P f (some (tw_I 1))) : tS fl (d + 1) 63 [tw_I (nI i)] f P := s_isBlock (fun _ _ _ => hP) (fun g => by
  rcases g with g | g
  · exact absurd g (nI_pos (by omega))
  · exact absurd ((nI_leI (by omega) (by omega)).mp g) (by omega))
set_option maxRecDepth 20000 in
theorem s_blk0 {fl : Bool} {d : Nat} {f : tw_S} {P : tw_S → Option tw_A → Prop} {x : Int32} (hx : x < 0 ∨ nI 32 ≤ x) (hP : P f (some (tw_I 0))) : tS fl (d + 1) 63 [tw_I x] f P := s_isBlock (fun j h1 h2 => by
  subst h2
  rcases hx with g | g
  · exact absurd g (nI_pos (by omega))
  · exact absurd ((nI_leI (by omega) (by omega)).mp g) (by omega)) (fun _ => hP)
set_option maxRecDepth 20000 in
theorem s_write_x {fl : Bool} {d : Nat} {f : tw_S} {P : tw_S → Option tw_A → Prop} {x y z : Int32} {tm : Nat} (ht : f 6 5 = nI tm) (ht2 : tm ≤ 200) (hx : ¬ (x = 0 ∨ x = 1) ∨ (y < 0 ∨ nI 32 ≤ y) ∨ tm = 200) (hP : P f (some (tw_I (-1)))) : tS fl (d + 4) 67 [tw_R 0, tw_I x, tw_I y, tw_I z] f P := by
  refine tw_Sp_of rfl rfl (Nat.le_of_ble_eq_true rfl) (fun X h => ?_)
  have no : X 10 [some (tw_R 0), some (tw_I x), some (tw_I y), some (tw_I z), none, none, none] [] tx_L0 f := by
    refine zi_iconst h rfl ?_
    refine zi_iret h rfl ?_
    exact hP
  refine zi_iload_n h rfl rfl ?_
  refine zk_S h [_] rfl rfl rfl (Nat.le_of_ble_eq_true rfl) (s_isController (fun c1 => ?_) (fun c1 => ?_))
  · first | refine zb_ifeq h rfl (fun hc => ?_) (fun hc => ?_) | refine zc_ifeq h rfl (fun hc => ?_) (fun hc => ?_)
    · exact absurd hc (by decide)
    · refine zi_iload_n h rfl rfl ?_
      refine zk_S h [_] rfl rfl rfl (Nat.le_of_ble_eq_true rfl) (s_isBlock (fun j g1 g2 => ?_) (fun g => ?_))
      · subst g2
        first | refine zb_ifeq h rfl (fun hc => ?_) (fun hc => ?_) | refine zc_ifeq h rfl (fun hc => ?_) (fun hc => ?_)
        · exact absurd hc (by decide)
        · refine zi_aload_n h rfl rfl ?_
          refine zg_ref h rfl (by first | rfl | assumption) (by decide) rfl rfl ?_
          refine zk_V h [] rfl (by first | rfl | assumption) rfl rfl (Nat.le_of_ble_eq_true rfl) (s_areFull ht ht2 (fun g => ?_) (fun g => ?_))
          · first | refine zb_ifeq h rfl (fun hc => ?_) (fun hc => ?_) | refine zc_ifeq h rfl (fun hc => ?_) (fun hc => ?_)
            · exact absurd hc (by decide)
            · exact no
          · exfalso
            rcases hx with u | u | u
            · exact u c1
            · rcases u with u | u
              · exact absurd u (nI_pos (by omega))
              · exact absurd ((nI_leI (by omega) (by omega)).mp u) (by omega)
            · omega
      · first | refine zb_ifeq h rfl (fun hc => ?_) (fun hc => ?_) | refine zc_ifeq h rfl (fun hc => ?_) (fun hc => ?_)
        · exact no
        · exact absurd rfl hc
  · first | refine zb_ifeq h rfl (fun hc => ?_) (fun hc => ?_) | refine zc_ifeq h rfl (fun hc => ?_) (fun hc => ?_)
    · exact no
    · exact absurd rfl hc
/-- what a write does that is served -/
def p_write (f : tw_S) (q k : Nat) (v : Int32) : tw_S := tw_up (tw_up (tw_up (tw_up (tw_up (tw_up (tw_up (tw_up (tw_up (tw_up (tw_up f q 16 (f q 16 + 1)) (q + 2) k 1) (q + 3) k 1) (q + 4) k v) (q + 5) k (f q 16 + 1)) 7 (f 6 5).toNatClampNeg 0) 8 (f 6 5).toNatClampNeg v) 6 5 (f 6 5 + 1)) 9 (f 6 5).toNatClampNeg (f q 0)) 10 (f 6 5).toNatClampNeg (nI k)) 11 (f 6 5).toNatClampNeg (f q 16 + 1)
set_option maxRecDepth 20000 in
theorem s_write_c {fl : Bool} {d : Nat} {f : tw_S} {P : tw_S → Option tw_A → Prop} {c q k tm : Nat} {v : Int32} (hc : c < 2) (hqc : q = 17 + 22 * c) (hn : f q 0 = if q = 17 then 0 else 1) (hb : p_box f (56 - q)) (hk : k < 32) (ht : f 6 5 = nI tm) (ht2 : tm < 200) (h1 : ¬ (¬ f q 6 = 0 ∧ p_bit (f q 11) (k / 16)) → P (tw_up (tw_up (tw_up f 7 tm 2) 8 tm v) 6 5 (nI (tm + 1))) (some (tw_I (nI tm)))) (h2 : (¬ f q 6 = 0 ∧ p_bit (f q 11) (k / 16)) → f q 7 = 0 → P (p_write f q k v) (some (tw_I (nI tm)))) (h3 : (¬ f q 6 = 0 ∧ p_bit (f q 11) (k / 16)) → ¬ f q 7 = 0 → P (p_send (p_write f q k v) (56 - q) 0 (nI k) v (f q 16 + 1) (nI tm)) (some (tw_I (nI tm)))) : tS fl (d + 4) 67 [tw_R 0, tw_I (nI c), tw_I (nI k), tw_I v] f P := by
  have hcc := hc
  have hq : q = 17 ∨ q = 39 := by omega
  have lc := tx_ctl hq
  obtain ⟨a0, a1, a2, a3, a4⟩ := tx_ent (tx_c1 hq)
  obtain ⟨m0, m1, m2, m3, m4⟩ := tx_ent (tx_c6 hq)
  obtain ⟨i0, i1, i2, i3, i4, i5⟩ := tx_inb (tx_c11 hq)
  obtain ⟨d0, d1, d2, d3⟩ := tx_des (tx_c17 hq)
  have w0 := tx_dwr (tx_c21 hq)
  have et : (f 6 5).toNatClampNeg = tm := by rw [ht]; exact nI_clamp (by omega)
  have ew : ∀ a b : Nat, a ≠ q + 2 ∧ a ≠ q + 3 ∧ a ≠ q + 4 ∧ a ≠ q + 5 ∧ a ≠ 6 ∧ a ≠ 7 ∧ a ≠ 8 ∧ a ≠ 9 ∧ a ≠ 10 ∧ a ≠ 11 ∧ ¬ (a = q ∧ b = 16) → p_write f q k v a b = f a b := by
    intro a b g
    unfold p_write
    rw [tw_off (by omega), tw_off (by omega), tw_off (by omega), tw_off (by omega), tw_off (by omega), tw_off (by omega), tw_off (by omega), tw_off (by omega), tw_off (by omega), tw_off (by omega), tw_off (by omega)]
  have hbw : p_box (p_write f q k v) (56 - q) := by
    obtain ⟨a, m, g1, g2, g3, g4⟩ := hb
    exact ⟨a, m, by rw [ew _ _ (by omega)]; exact g1, g2, by rw [ew _ _ (by omega)]; exact g3, g4⟩
  refine tw_Sp_of rfl rfl (Nat.le_of_ble_eq_true rfl) (fun X h => ?_)
  refine zi_iload_n h rfl rfl ?_
  refine zk_S h [_] rfl rfl rfl (Nat.le_of_ble_eq_true rfl) (s_ctl1 hcc ?_)
  first | refine zb_ifeq h rfl (fun hc => ?_) (fun hc => ?_) | refine zc_ifeq h rfl (fun hc => ?_) (fun hc => ?_)
  · exact absurd hc (by decide)
  · refine zi_iload_n h rfl rfl ?_
    refine zk_S h [_] rfl rfl rfl (Nat.le_of_ble_eq_true rfl) (s_blk1 hk ?_)
    first | refine zb_ifeq h rfl (fun hc => ?_) (fun hc => ?_) | refine zc_ifeq h rfl (fun hc => ?_) (fun hc => ?_)
    · exact absurd hc (by decide)
    · refine zi_aload_n h rfl rfl ?_
      refine zg_ref h rfl (by first | rfl | assumption) (by decide) rfl rfl ?_
      refine zk_V h [] rfl (by first | rfl | assumption) rfl rfl (Nat.le_of_ble_eq_true rfl) (s_areFull ht (by omega) (fun g => by omega) (fun g => ?_))
      first | refine zb_ifeq h rfl (fun hc => ?_) (fun hc => ?_) | refine zc_ifeq h rfl (fun hc => ?_) (fun hc => ?_)
      · refine zi_aload_n h rfl rfl ?_
        refine zi_iload_n h rfl rfl ?_
        refine zk_V h [_] rfl (by first | rfl | assumption) rfl rfl (Nat.le_of_ble_eq_true rfl) (s_num hcc hqc ?_)
        refine zi_astore h rfl (Nat.le_of_ble_eq_true rfl) ?_
        refine zi_aload h rfl rfl ?_
        refine zi_iload_n h rfl rfl ?_
        refine zk_V h [_] rfl (by first | rfl | assumption) rfl rfl (Nat.le_of_ble_eq_true rfl) (s_serves hq hk (fun g => ?_) (fun g => ?_))
        · first | refine zb_ifne h rfl (fun hc => ?_) (fun hc => ?_) | refine zc_ifne h rfl (fun hc => ?_) (fun hc => ?_)
          · refine zi_aload h rfl rfl ?_
            refine zk_V h [] rfl (by first | rfl | assumption) rfl rfl (Nat.le_of_ble_eq_true rfl) (s_newVersion hq ?_)
            refine zi_istore h rfl (Nat.le_of_ble_eq_true rfl) ?_
            refine zi_aload h rfl rfl ?_
            refine zg_ref h rfl (by first | rfl | assumption) (by decide) rfl rfl ?_
            refine zi_iload_n h rfl rfl ?_
            refine zi_iload_n h rfl rfl ?_
            refine zi_iload h rfl rfl ?_
            refine zn_iconst h 1 rfl rfl ?_
            refine zk_V h [_, _, _, _] rfl (by first | rfl | assumption) rfl rfl (Nat.le_of_ble_eq_true rfl) (s_eput (tx_c1 hq) hk (Or.inr rfl) ?_)
            refine zi_aload_n h rfl rfl ?_
            refine zg_ref h rfl (by first | rfl | assumption) (by decide) rfl rfl ?_
            refine zi_aload h rfl rfl ?_
            refine zg_int h rfl (by first | rfl | assumption) (by decide) rfl ?_
            refine zi_iload_n h rfl rfl ?_
            refine zi_iload h rfl rfl ?_
            refine zi_iload_n h rfl rfl ?_
            refine zk_V h [_, _, _, _] rfl (by first | rfl | assumption) rfl rfl (Nat.le_of_ble_eq_true rfl) (s_addOpenWrite (m := tm) (by rw [tw_off (by omega), tw_off (by omega), tw_off (by omega), tw_off (by omega), tw_off (by omega)]; exact ht) ht2 ?_)
            have hmem : ∀ a b, tw_up (tw_up (tw_up (tw_up (tw_up (tw_up (tw_up (tw_up (tw_up (tw_up (tw_up f q 16 (f q 16 + 1)) (q + 1 + 1) k 1) (q + 1 + 2) k (nI 1)) (q + 1 + 3) k v) (q + 1 + 4) k (f q 16 + 1)) 7 tm 0) 8 tm v) 6 5 (nI (tm + 1))) 9 tm (tw_up (tw_up (tw_up (tw_up (tw_up f q 16 (f q 16 + 1)) (q + 1 + 1) k 1) (q + 1 + 2) k (nI 1)) (q + 1 + 3) k v) (q + 1 + 4) k (f q 16 + 1) q 0)) 10 tm (nI k)) 11 tm (f q 16 + 1) a b = p_write f q k v a b := by
              intro a b
              unfold p_write
              rw [et, ht, nI_1, tw_n1, show tw_up (tw_up (tw_up (tw_up (tw_up f q 16 (f q 16 + 1)) (q + 1 + 1) k 1) (q + 1 + 2) k 1) (q + 1 + 3) k v) (q + 1 + 4) k (f q 16 + 1) q 0 = f q 0 by rw [tw_off (by omega), tw_off (by omega), tw_off (by omega), tw_off (by omega), tw_off (by omega)]]
            refine tw_mem hmem ?_
            refine zi_istore h rfl (Nat.le_of_ble_eq_true rfl) ?_
            refine zi_aload h rfl rfl ?_
            refine zg_boo h rfl (by first | rfl | assumption) (by decide) rfl ?_
            first | refine zb_ifeq h rfl (fun hc => ?_) (fun hc => ?_) | refine zc_ifeq h rfl (fun hc => ?_) (fun hc => ?_)
            · rw [ew _ _ (by omega)] at hc
              refine zi_iload h rfl rfl ?_
              refine zi_iret h rfl ?_
              exact h2 g hc
            · rw [ew _ _ (by omega)] at hc
              refine zi_aload_n h rfl rfl ?_
              refine zi_aload_n h rfl rfl ?_
              refine zi_aload h rfl rfl ?_
              refine zk_V h [_] rfl (by first | rfl | assumption) rfl rfl (Nat.le_of_ble_eq_true rfl) (s_partnerOf hq (by rw [ew _ _ (by omega)]; exact hn) ?_)
              refine zn_iconst h 0 rfl rfl ?_
              refine zi_iload_n h rfl rfl ?_
              refine zi_iload_n h rfl rfl ?_
              refine zi_iload h rfl rfl ?_
              refine zi_iload h rfl rfl ?_
              refine zk_V h [_, _, _, _, _, _] rfl (by first | rfl | assumption) rfl rfl (Nat.le_of_ble_eq_true rfl) (s_send (by omega) hbw ?_)
              refine zi_iload h rfl rfl ?_
              refine zi_iret h rfl ?_
              exact h3 g hc
          · exact absurd hc (by decide)
        · first | refine zb_ifne h rfl (fun hc => ?_) (fun hc => ?_) | refine zc_ifne h rfl (fun hc => ?_) (fun hc => ?_)
          · exact absurd rfl hc
          · refine zi_aload_n h rfl rfl ?_
            refine zg_ref h rfl (by first | rfl | assumption) (by decide) rfl rfl ?_
            refine zn_iconst h 2 rfl rfl ?_
            refine zi_iload_n h rfl rfl ?_
            refine zk_V h [_, _] rfl (by first | rfl | assumption) rfl rfl (Nat.le_of_ble_eq_true rfl) (s_tadd ht ht2 ?_)
            refine zi_iret h rfl ?_
            exact h1 g
      · exact absurd rfl hc
set_option maxRecDepth 20000 in
theorem s_read_x {fl : Bool} {d : Nat} {f : tw_S} {P : tw_S → Option tw_A → Prop} {x y : Int32} {tm : Nat} (ht : f 6 5 = nI tm) (ht2 : tm ≤ 200) (hx : ¬ (x = 0 ∨ x = 1) ∨ (y < 0 ∨ nI 32 ≤ y) ∨ tm = 200) (hP : P f (some (tw_I (-1)))) : tS fl (d + 5) 69 [tw_R 0, tw_I x, tw_I y] f P := by
  refine tw_Sp_of rfl rfl (Nat.le_of_ble_eq_true rfl) (fun X h => ?_)
  have no : X 10 [some (tw_R 0), some (tw_I x), some (tw_I y), none] [] tx_L0 f := by
    refine zi_iconst h rfl ?_
    refine zi_iret h rfl ?_
    exact hP
  refine zi_iload_n h rfl rfl ?_
  refine zk_S h [_] rfl rfl rfl (Nat.le_of_ble_eq_true rfl) (s_isController (fun c1 => ?_) (fun c1 => ?_))
  · first | refine zb_ifeq h rfl (fun hc => ?_) (fun hc => ?_) | refine zc_ifeq h rfl (fun hc => ?_) (fun hc => ?_)
    · exact absurd hc (by decide)
    · refine zi_iload_n h rfl rfl ?_
      refine zk_S h [_] rfl rfl rfl (Nat.le_of_ble_eq_true rfl) (s_isBlock (fun j g1 g2 => ?_) (fun g => ?_))
      · subst g2
        first | refine zb_ifeq h rfl (fun hc => ?_) (fun hc => ?_) | refine zc_ifeq h rfl (fun hc => ?_) (fun hc => ?_)
        · exact absurd hc (by decide)
        · refine zi_aload_n h rfl rfl ?_
          refine zg_ref h rfl (by first | rfl | assumption) (by decide) rfl rfl ?_
          refine zk_V h [] rfl (by first | rfl | assumption) rfl rfl (Nat.le_of_ble_eq_true rfl) (s_areFull ht ht2 (fun g => ?_) (fun g => ?_))
          · first | refine zb_ifeq h rfl (fun hc => ?_) (fun hc => ?_) | refine zc_ifeq h rfl (fun hc => ?_) (fun hc => ?_)
            · exact absurd hc (by decide)
            · exact no
          · exfalso
            rcases hx with u | u | u
            · exact u c1
            · rcases u with u | u
              · exact absurd u (nI_pos (by omega))
              · exact absurd ((nI_leI (by omega) (by omega)).mp u) (by omega)
            · omega
      · first | refine zb_ifeq h rfl (fun hc => ?_) (fun hc => ?_) | refine zc_ifeq h rfl (fun hc => ?_) (fun hc => ?_)
        · exact no
        · exact absurd rfl hc
  · first | refine zb_ifeq h rfl (fun hc => ?_) (fun hc => ?_) | refine zc_ifeq h rfl (fun hc => ?_) (fun hc => ?_)
    · exact no
    · exact absurd rfl hc
theorem p_other_le (th ks : Nat → Int32) (key : Int32) : ∀ n, p_other th ks key n ≤ n
  | 0 => Nat.le_refl _
  | n + 1 => by
    have h := p_other_le th ks key n
    unfold p_other
    split <;> omega
def p_tick (f : tw_S) (s v : Int32) : tw_S := tw_up (tw_up (tw_up f 7 (f 6 5).toNatClampNeg s) 8 (f 6 5).toNatClampNeg v) 6 5 (f 6 5 + 1)
set_option maxRecDepth 20000 in
theorem s_tick {fl : Bool} {d : Nat} {f : tw_S} {P : tw_S → Option tw_A → Prop} {m : Nat} {s v : Int32} (hm : f 6 5 = nI m) (hm2 : m < 200) (hP : P (p_tick f s v) (some (tw_I (nI m)))) : tS fl (d + 1) 55 [tw_R 6, tw_I s, tw_I v] f P := by
  refine s_tadd hm hm2 ?_
  rw [p_tick, hm, nI_clamp (by omega), nI_1] at hP
  exact hP
theorem p_down_65 {f : tw_S} {q : Nat} (hq : q = 17 ∨ q = 39) : p_down f q 6 5 = f 6 5 := by
  have h1 : p_late f (q + 21) 6 5 = f 6 5 := by
    unfold p_late
    split
    · rfl
    · rw [tw_off (by omega), tw_off (by omega), tw_off (by omega), tw_off (by omega), tw_off (by omega)]
  unfold p_down p_forget p_drop p_ref
  rw [tw_off (by omega), tw_off (by omega), if_neg (by omega), if_neg (by omega), tw_off (by omega), tw_off (by omega), tw_off (by omega), tw_off (by omega), tw_off (by omega), tw_off (by omega), tw_off (by omega), tw_off (by omega), tw_off (by omega), tw_off (by omega), if_neg (by omega)]
  exact h1
set_option maxRecDepth 20000 in
theorem s_read_c {fl : Bool} {d : Nat} {f : tw_S} {P : tw_S → Option tw_A → Prop} {c q k tm lm : Nat} (hc : c < 2) (hqc : q = 17 + 22 * c) (hk : k < 32) (hl : f 12 4 = nI lm) (hl2 : lm ≤ 20) (ht : f 6 5 = nI tm) (ht2 : tm < 200) (h1 : ¬ (¬ f q 6 = 0 ∧ p_bit (f q 11) (k / 16)) → P (p_tick f 2 0) (some (tw_I (nI tm)))) (h2 : (¬ f q 6 = 0 ∧ p_bit (f q 11) (k / 16)) → ¬ p_other (f 2) (f 3) (f q 10) 5 < 3 → P (p_tick (p_down f q) 2 0) (some (tw_I (nI tm)))) (h3 : (¬ f q 6 = 0 ∧ p_bit (f q 11) (k / 16)) → p_other (f 2) (f 3) (f q 10) 5 < 3 → ¬ f (q + 2) k = 0 → P (p_tick f 1 (f (q + 4) k)) (some (tw_I (nI tm)))) (h4 : (¬ f q 6 = 0 ∧ p_bit (f q 11) (k / 16)) → p_other (f 2) (f 3) (f q 10) 5 < 3 → f (q + 2) k = 0 → p_lost (f 5) k → P (p_tick f 2 0) (some (tw_I (nI tm)))) (h5 : (¬ f q 6 = 0 ∧ p_bit (f q 11) (k / 16)) → p_other (f 2) (f 3) (f q 10) 5 < 3 → f (q + 2) k = 0 → ¬ p_lost (f 5) k → P (p_tick (tw_up (tw_up (tw_up (tw_up f (q + 2) k 1) (q + 3) k 0) (q + 4) k (p_what (f 5) (f 4) k)) (q + 5) k 0) 1 (p_what (f 5) (f 4) k)) (some (tw_I (nI tm)))) : tS fl (d + 5) 69 [tw_R 0, tw_I (nI c), tw_I (nI k)] f P := by
  have hcc := hc
  have hq : q = 17 ∨ q = 39 := by omega
  have lc := tx_ctl hq
  obtain ⟨a0, a1, a2, a3, a4⟩ := tx_ent (tx_c1 hq)
  obtain ⟨m0, m1, m2, m3, m4⟩ := tx_ent (tx_c6 hq)
  obtain ⟨i0, i1, i2, i3, i4, i5⟩ := tx_inb (tx_c11 hq)
  obtain ⟨d0, d1, d2, d3⟩ := tx_des (tx_c17 hq)
  have w0 := tx_dwr (tx_c21 hq)
  have hol := p_other_le (f 2) (f 3) (f q 10) 5
  refine tw_Sp_of rfl rfl (Nat.le_of_ble_eq_true rfl) (fun X h => ?_)
  refine zi_iload_n h rfl rfl ?_
  refine zk_S h [_] rfl rfl rfl (Nat.le_of_ble_eq_true rfl) (s_ctl1 hcc ?_)
  first | refine zb_ifeq h rfl (fun hc => ?_) (fun hc => ?_) | refine zc_ifeq h rfl (fun hc => ?_) (fun hc => ?_)
  · exact absurd hc (by decide)
  · refine zi_iload_n h rfl rfl ?_
    refine zk_S h [_] rfl rfl rfl (Nat.le_of_ble_eq_true rfl) (s_blk1 hk ?_)
    first | refine zb_ifeq h rfl (fun hc => ?_) (fun hc => ?_) | refine zc_ifeq h rfl (fun hc => ?_) (fun hc => ?_)
    · exact absurd hc (by decide)
    · refine zi_aload_n h rfl rfl ?_
      refine zg_ref h rfl (by first | rfl | assumption) (by decide) rfl rfl ?_
      refine zk_V h [] rfl (by first | rfl | assumption) rfl rfl (Nat.le_of_ble_eq_true rfl) (s_areFull ht (by omega) (fun g => by omega) (fun g => ?_))
      first | refine zb_ifeq h rfl (fun hc => ?_) (fun hc => ?_) | refine zc_ifeq h rfl (fun hc => ?_) (fun hc => ?_)
      · refine zi_aload_n h rfl rfl ?_
        refine zi_iload_n h rfl rfl ?_
        refine zk_V h [_] rfl (by first | rfl | assumption) rfl rfl (Nat.le_of_ble_eq_true rfl) (s_num hcc hqc ?_)
        refine zi_astore_n h rfl (Nat.le_of_ble_eq_true rfl) ?_
        refine zi_aload_n h rfl rfl ?_
        refine zi_iload_n h rfl rfl ?_
        refine zk_V h [_] rfl (by first | rfl | assumption) rfl rfl (Nat.le_of_ble_eq_true rfl) (s_serves hq hk (fun g => ?_) (fun g => ?_))
        · first | refine zb_ifne h rfl (fun hc => ?_) (fun hc => ?_) | refine zc_ifne h rfl (fun hc => ?_) (fun hc => ?_)
          · refine zi_aload_n h rfl rfl ?_
            refine zg_ref h rfl (by first | rfl | assumption) (by decide) rfl rfl ?_
            refine zi_aload_n h rfl rfl ?_
            refine zg_int h rfl (by first | rfl | assumption) (by decide) rfl ?_
            refine zk_V h [_] rfl (by first | rfl | assumption) rfl rfl (Nat.le_of_ble_eq_true rfl) (s_withOther ?_)
            refine zn_iconst h 3 rfl rfl ?_
            first | refine zn_icmplt h rfl (by omega) (by omega) (fun hc => ?_) (fun hc => ?_) | refine zc_icmplt h rfl (fun hc => ?_) (fun hc => ?_)
            · have c3 := hc
              refine zi_aload_n h rfl rfl ?_
              refine zg_ref h rfl (by first | rfl | assumption) (by decide) rfl rfl ?_
              refine zg_ref h rfl (by first | rfl | assumption) (by decide) rfl rfl ?_
              refine zi_iload_n h rfl rfl ?_
              refine za_z h rfl (by first | rfl | assumption) rfl (by omega) (by decide) ?_
              first | refine zb_ifne h rfl (fun hc => ?_) (fun hc => ?_) | refine zc_ifne h rfl (fun hc => ?_) (fun hc => ?_)
              · refine zi_aload_n h rfl rfl ?_
                refine zg_ref h rfl (by first | rfl | assumption) (by decide) rfl rfl ?_
                refine zn_iconst h 1 rfl rfl ?_
                refine zi_aload_n h rfl rfl ?_
                refine zg_ref h rfl (by first | rfl | assumption) (by decide) rfl rfl ?_
                refine zg_ref h rfl (by first | rfl | assumption) (by decide) rfl rfl ?_
                refine zi_iload_n h rfl rfl ?_
                refine za_i h rfl (by first | rfl | assumption) rfl (by omega) (by decide) ?_
                refine zk_V h [_, _] rfl (by first | rfl | assumption) rfl rfl (Nat.le_of_ble_eq_true rfl) (s_tick ht ht2 ?_)
                refine zi_iret h rfl ?_
                exact h3 g c3 hc
              · have c4 := hc
                refine zi_aload_n h rfl rfl ?_
                refine zg_ref h rfl (by first | rfl | assumption) (by decide) rfl rfl ?_
                refine zi_iload_n h rfl rfl ?_
                refine zk_V h [_] rfl (by first | rfl | assumption) rfl rfl (Nat.le_of_ble_eq_true rfl) (s_isDataLost hk (fun u => ?_) (fun u => ?_))
                · first | refine zb_ifeq h rfl (fun hc => ?_) (fun hc => ?_) | refine zc_ifeq h rfl (fun hc => ?_) (fun hc => ?_)
                  · exact absurd hc (by decide)
                  · refine zi_aload_n h rfl rfl ?_
                    refine zg_ref h rfl (by first | rfl | assumption) (by decide) rfl rfl ?_
                    refine zn_iconst h 2 rfl rfl ?_
                    refine zn_iconst h 0 rfl rfl ?_
                    refine zk_V h [_, _] rfl (by first | rfl | assumption) rfl rfl (Nat.le_of_ble_eq_true rfl) (s_tick ht ht2 ?_)
                    refine zi_iret h rfl ?_
                    exact h4 g c3 c4 u
                · first | refine zb_ifeq h rfl (fun hc => ?_) (fun hc => ?_) | refine zc_ifeq h rfl (fun hc => ?_) (fun hc => ?_)
                  · refine zi_aload_n h rfl rfl ?_
                    refine zg_ref h rfl (by first | rfl | assumption) (by decide) rfl rfl ?_
                    refine zi_iload_n h rfl rfl ?_
                    refine zi_aload_n h rfl rfl ?_
                    refine zg_ref h rfl (by first | rfl | assumption) (by decide) rfl rfl ?_
                    refine zi_iload_n h rfl rfl ?_
                    refine zk_V h [_] rfl (by first | rfl | assumption) rfl rfl (Nat.le_of_ble_eq_true rfl) (s_dataOf hk ?_)
                    refine zn_iconst h 0 rfl rfl ?_
                    refine zn_iconst h 0 rfl rfl ?_
                    refine zk_V h [_, _, _, _] rfl (by first | rfl | assumption) rfl rfl (Nat.le_of_ble_eq_true rfl) (s_eput (tx_c1 hq) hk (Or.inl rfl) ?_)
                    refine zi_aload_n h rfl rfl ?_
                    refine zg_ref h rfl (by first | rfl | assumption) (by decide) rfl rfl ?_
                    refine zn_iconst h 1 rfl rfl ?_
                    refine zi_aload_n h rfl rfl ?_
                    refine zg_ref h rfl (by first | rfl | assumption) (by decide) rfl rfl ?_
                    refine zg_ref h rfl (by first | rfl | assumption) (by decide) rfl rfl ?_
                    refine zi_iload_n h rfl rfl ?_
                    refine za_i h rfl (by first | rfl | assumption) rfl (by omega) (by decide) ?_
                    have e1 : tw_up (tw_up (tw_up (tw_up f (q + 1 + 1) k 1) (q + 1 + 2) k (nI 0)) (q + 1 + 3) k (p_what (f 5) (f 4) k)) (q + 1 + 4) k (nI 0) (q + 1 + 3) k = p_what (f 5) (f 4) k := by
                      rw [tw_off (by omega)]
                      simp [tw_up]
                    rw [e1]
                    refine zk_V h [_, _] rfl (by first | rfl | assumption) rfl rfl (Nat.le_of_ble_eq_true rfl) (s_tick (m := tm) (by rw [tw_off (by omega), tw_off (by omega), tw_off (by omega), tw_off (by omega)]; exact ht) ht2 ?_)
                    refine zi_iret h rfl ?_
                    exact h5 g c3 c4 u
                  · exact absurd rfl hc
            · refine zi_aload_n h rfl rfl ?_
              refine zi_aload_n h rfl rfl ?_
              refine zk_V h [_] rfl (by first | rfl | assumption) rfl rfl (Nat.le_of_ble_eq_true rfl) (s_goDown hq hl hl2 ht (by omega) ?_)
              refine zi_aload_n h rfl rfl ?_
              refine zg_ref h rfl (by first | rfl | assumption) (by decide) rfl rfl ?_
              refine zn_iconst h 2 rfl rfl ?_
              refine zn_iconst h 0 rfl rfl ?_
              refine zk_V h [_, _] rfl (by first | rfl | assumption) rfl rfl (Nat.le_of_ble_eq_true rfl) (s_tick (m := tm) (by rw [p_down_65 hq]; exact ht) ht2 ?_)
              refine zi_iret h rfl ?_
              exact h2 g (by omega)
          · exact absurd hc (by decide)
        · first | refine zb_ifne h rfl (fun hc => ?_) (fun hc => ?_) | refine zc_ifne h rfl (fun hc => ?_) (fun hc => ?_)
          · exact absurd rfl hc
          · refine zi_aload_n h rfl rfl ?_
            refine zg_ref h rfl (by first | rfl | assumption) (by decide) rfl rfl ?_
            refine zn_iconst h 2 rfl rfl ?_
            refine zn_iconst h 0 rfl rfl ?_
            refine zk_V h [_, _] rfl (by first | rfl | assumption) rfl rfl (Nat.le_of_ble_eq_true rfl) (s_tick ht ht2 ?_)
            refine zi_iret h rfl ?_
            exact h1 g
      · exact absurd rfl hc
set_option maxRecDepth 20000 in
theorem s_late_x {fl : Bool} {d : Nat} {f : tw_S} {P : tw_S → Option tw_A → Prop} {x : Int32} {lm : Nat} (hl : f 12 4 = nI lm) (hl2 : lm ≤ 20) (hx : x < 0 ∨ nI lm ≤ x) (hP : P f (some (tw_I (-1)))) : tS fl (d + 2) 100 [tw_R 0, tw_I x] f P := by
  refine tw_Sp_of rfl rfl (Nat.le_of_ble_eq_true rfl) (fun X h => ?_)
  refine zi_aload_n h rfl rfl ?_
  refine zg_ref h rfl (by first | rfl | assumption) (by decide) rfl rfl ?_
  refine zi_iload_n h rfl rfl ?_
  refine zk_V h [_] rfl (by first | rfl | assumption) rfl rfl (Nat.le_of_ble_eq_true rfl) (s_lhas hl hl2 (fun j g1 g2 => ?_) (fun g => ?_))
  · exfalso
    subst g2
    rcases hx with u | u
    · exact absurd u (nI_pos (by omega))
    · exact absurd ((nI_leI (by omega) (by omega)).mp u) (by omega)
  · first | refine zb_ifne h rfl (fun hc => ?_) (fun hc => ?_) | refine zc_ifne h rfl (fun hc => ?_) (fun hc => ?_)
    · exact absurd rfl hc
    · refine zi_iconst h rfl ?_
      refine zi_iret h rfl ?_
      exact hP
/-- the late writes without the one at k, of m -/
def p_lrm (f : tw_S) (k m : Nat) : tw_S := fun c j => if 13 ≤ c ∧ c ≤ 16 ∧ k ≤ j ∧ j < m - 1 then f c (j + 1) else if c = 12 ∧ j = 4 then nI (m - 1) else f c j
set_option maxRecDepth 20000 in
theorem s_late_k {fl : Bool} {d : Nat} {f : tw_S} {P : tw_S → Option tw_A → Prop} {k lm i s : Nat} (hl : f 12 4 = nI lm) (hl2 : lm ≤ 20) (hk : k < lm) (hi : f 13 k = nI i) (hi2 : i < 5) (hs : f 14 k = nI s) (hs2 : s < 8) (h1 : (¬ f 2 i = 0 ∧ f 3 i = f 16 k) → P (p_lrm (tw_up (tw_up f 4 (i * 8 + s) (f 15 k)) 5 (i * 8 + s) 0) k lm) (some (tw_I 1))) (h2 : ¬ (¬ f 2 i = 0 ∧ f 3 i = f 16 k) → P (p_lrm f k lm) (some (tw_I 0))) : tS fl (d + 2) 100 [tw_R 0, tw_I (nI k)] f P := by
  refine tw_Sp_of rfl rfl (Nat.le_of_ble_eq_true rfl) (fun X h => ?_)
  have no : ¬ (¬ f 2 i = 0 ∧ f 3 i = f 16 k) → X 33 [some (tw_R 0), some (tw_I (nI k)), some (tw_I (nI i)), none] [tw_I (nI 0)] tx_L0 f := by
    intro cn
    refine zi_istore_n h rfl (Nat.le_of_ble_eq_true rfl) ?_
    refine zi_iload_n h rfl rfl ?_
    first | refine zb_ifeq h rfl (fun hc => ?_) (fun hc => ?_) | refine zc_ifeq h rfl (fun hc => ?_) (fun hc => ?_)
    · refine zi_aload_n h rfl rfl ?_
      refine zg_ref h rfl (by first | rfl | assumption) (by decide) rfl rfl ?_
      refine zi_iload_n h rfl rfl ?_
      refine zk_V h [_] rfl (by first | rfl | assumption) rfl rfl (Nat.le_of_ble_eq_true rfl) (s_lremove hl hl2 hk ?_)
      refine zi_iload_n h rfl rfl ?_
      first | refine zb_ifeq h rfl (fun hc => ?_) (fun hc => ?_) | refine zc_ifeq h rfl (fun hc => ?_) (fun hc => ?_)
      · refine zn_iconst h 0 rfl rfl ?_
        refine zi_iret h rfl ?_
        exact h2 cn
      · exact absurd rfl hc
    · exact absurd rfl hc
  refine zi_aload_n h rfl rfl ?_
  refine zg_ref h rfl (by first | rfl | assumption) (by decide) rfl rfl ?_
  refine zi_iload_n h rfl rfl ?_
  refine zk_V h [_] rfl (by first | rfl | assumption) rfl rfl (Nat.le_of_ble_eq_true rfl) (s_lhas hl hl2 (fun j g1 g2 => ?_) (fun g => ?_))
  · first | refine zb_ifne h rfl (fun hc => ?_) (fun hc => ?_) | refine zc_ifne h rfl (fun hc => ?_) (fun hc => ?_)
    · refine zi_aload_n h rfl rfl ?_
      refine zg_ref h rfl (by first | rfl | assumption) (by decide) rfl rfl ?_
      refine zg_ref h rfl (by first | rfl | assumption) (by decide) rfl rfl ?_
      refine zi_iload_n h rfl rfl ?_
      refine za_n h i rfl (by first | rfl | assumption) rfl (by omega) (by decide) hi ?_
      refine zi_istore_n h rfl (Nat.le_of_ble_eq_true rfl) ?_
      refine zi_aload_n h rfl rfl ?_
      refine zg_ref h rfl (by first | rfl | assumption) (by decide) rfl rfl ?_
      refine zg_ref h rfl (by first | rfl | assumption) (by decide) rfl rfl ?_
      refine zi_iload_n h rfl rfl ?_
      refine za_z h rfl (by first | rfl | assumption) rfl (by omega) (by decide) ?_
      first | refine zb_ifeq h rfl (fun hc => ?_) (fun hc => ?_) | refine zc_ifeq h rfl (fun hc => ?_) (fun hc => ?_)
      · refine zn_iconst h 0 rfl rfl ?_
        exact no (fun u => u.1 hc)
      · have c2 := hc
        refine zi_aload_n h rfl rfl ?_
        refine zg_ref h rfl (by first | rfl | assumption) (by decide) rfl rfl ?_
        refine zg_ref h rfl (by first | rfl | assumption) (by decide) rfl rfl ?_
        refine zi_iload_n h rfl rfl ?_
        refine za_i h rfl (by first | rfl | assumption) rfl (by omega) (by decide) ?_
        refine zi_aload_n h rfl rfl ?_
        refine zg_ref h rfl (by first | rfl | assumption) (by decide) rfl rfl ?_
        refine zg_ref h rfl (by first | rfl | assumption) (by decide) rfl rfl ?_
        refine zi_iload_n h rfl rfl ?_
        refine za_i h rfl (by first | rfl | assumption) rfl (by omega) (by decide) ?_
        refine zc_icmpne h rfl (fun hc => ?_) (fun hc => ?_)
        · refine zn_iconst h 0 rfl rfl ?_
          exact no (fun u => hc u.2)
        · refine zn_iconst h 1 rfl rfl ?_
          refine zi_goto h rfl ?_
          refine zi_istore_n h rfl (Nat.le_of_ble_eq_true rfl) ?_
          refine zi_iload_n h rfl rfl ?_
          first | refine zb_ifeq h rfl (fun hc => ?_) (fun hc => ?_) | refine zc_ifeq h rfl (fun hc => ?_) (fun hc => ?_)
          · exact absurd hc (by decide)
          · refine zi_aload_n h rfl rfl ?_
            refine zg_ref h rfl (by first | rfl | assumption) (by decide) rfl rfl ?_
            refine zi_iload_n h rfl rfl ?_
            refine zi_aload_n h rfl rfl ?_
            refine zg_ref h rfl (by first | rfl | assumption) (by decide) rfl rfl ?_
            refine zg_ref h rfl (by first | rfl | assumption) (by decide) rfl rfl ?_
            refine zi_iload_n h rfl rfl ?_
            refine za_n h s rfl (by first | rfl | assumption) rfl (by omega) (by decide) hs ?_
            refine zi_aload_n h rfl rfl ?_
            refine zg_ref h rfl (by first | rfl | assumption) (by decide) rfl rfl ?_
            refine zg_ref h rfl (by first | rfl | assumption) (by decide) rfl rfl ?_
            refine zi_iload_n h rfl rfl ?_
            refine za_i h rfl (by first | rfl | assumption) rfl (by omega) (by decide) ?_
            refine zk_V h [_, _, _] rfl (by first | rfl | assumption) rfl rfl (Nat.le_of_ble_eq_true rfl) (s_put hi2 hs2 ?_)
            refine zi_aload_n h rfl rfl ?_
            refine zg_ref h rfl (by first | rfl | assumption) (by decide) rfl rfl ?_
            refine zi_iload_n h rfl rfl ?_
            refine zk_V h [_] rfl (by first | rfl | assumption) rfl rfl (Nat.le_of_ble_eq_true rfl) (s_lremove (by rw [tw_off (by omega), tw_off (by omega)]; exact hl) hl2 hk ?_)
            refine zi_iload_n h rfl rfl ?_
            first | refine zb_ifeq h rfl (fun hc => ?_) (fun hc => ?_) | refine zc_ifeq h rfl (fun hc => ?_) (fun hc => ?_)
            · exact absurd hc (by decide)
            · refine zn_iconst h 1 rfl rfl ?_
              refine zi_goto h rfl ?_
              refine zi_iret h rfl ?_
              exact h1 ⟨c2, by assumption⟩
    · exact absurd hc (by decide)
  · exfalso
    rcases g with u | u
    · exact absurd u (nI_pos (by omega))
    · exact absurd ((nI_leI (by omega) (by omega)).mp u) (by omega)
set_option maxRecDepth 20000 in
theorem s_ticket_k {fl : Bool} {d : Nat} {f : tw_S} {P : tw_S → Option tw_A → Prop} {k tm : Nat} (ht : f 6 5 = nI tm) (ht2 : tm ≤ 200) (hk : k < tm) (hP : P f (some (tw_I (f 7 k)))) : tS fl (d + 2) 106 [tw_R 0, tw_I (nI k)] f P := by
  refine tw_Sp_of rfl rfl (Nat.le_of_ble_eq_true rfl) (fun X h => ?_)
  refine zi_aload_n h rfl rfl ?_
  refine zg_ref h rfl (by first | rfl | assumption) (by decide) rfl rfl ?_
  refine zi_iload_n h rfl rfl ?_
  refine zk_V h [_] rfl (by first | rfl | assumption) rfl rfl (Nat.le_of_ble_eq_true rfl) (s_thas ht ht2 (fun j g1 g2 => ?_) (fun g => ?_))
  · first | refine zb_ifne h rfl (fun hc => ?_) (fun hc => ?_) | refine zc_ifne h rfl (fun hc => ?_) (fun hc => ?_)
    · refine zi_aload_n h rfl rfl ?_
      refine zg_ref h rfl (by first | rfl | assumption) (by decide) rfl rfl ?_
      refine zg_ref h rfl (by first | rfl | assumption) (by decide) rfl rfl ?_
      refine zi_iload_n h rfl rfl ?_
      refine za_i h rfl (by first | rfl | assumption) rfl (by omega) (by decide) ?_
      refine zi_iret h rfl ?_
      exact hP
    · exact absurd hc (by decide)
  · exfalso
    rcases g with u | u
    · exact absurd u (nI_pos (by omega))
    · exact absurd ((nI_leI (by omega) (by omega)).mp u) (by omega)
set_option maxRecDepth 20000 in
theorem s_value_k {fl : Bool} {d : Nat} {f : tw_S} {P : tw_S → Option tw_A → Prop} {k tm : Nat} (ht : f 6 5 = nI tm) (ht2 : tm ≤ 200) (hk : k < tm) (hP : P f (some (tw_I (f 8 k)))) : tS fl (d + 2) 107 [tw_R 0, tw_I (nI k)] f P := by
  refine tw_Sp_of rfl rfl (Nat.le_of_ble_eq_true rfl) (fun X h => ?_)
  refine zi_aload_n h rfl rfl ?_
  refine zg_ref h rfl (by first | rfl | assumption) (by decide) rfl rfl ?_
  refine zi_iload_n h rfl rfl ?_
  refine zk_V h [_] rfl (by first | rfl | assumption) rfl rfl (Nat.le_of_ble_eq_true rfl) (s_thas ht ht2 (fun j g1 g2 => ?_) (fun g => ?_))
  · first | refine zb_ifne h rfl (fun hc => ?_) (fun hc => ?_) | refine zc_ifne h rfl (fun hc => ?_) (fun hc => ?_)
    · refine zi_aload_n h rfl rfl ?_
      refine zg_ref h rfl (by first | rfl | assumption) (by decide) rfl rfl ?_
      refine zg_ref h rfl (by first | rfl | assumption) (by decide) rfl rfl ?_
      refine zi_iload_n h rfl rfl ?_
      refine za_i h rfl (by first | rfl | assumption) rfl (by omega) (by decide) ?_
      refine zi_iret h rfl ?_
      exact hP
    · exact absurd hc (by decide)
  · exfalso
    rcases g with u | u
    · exact absurd u (nI_pos (by omega))
    · exact absurd ((nI_leI (by omega) (by omega)).mp u) (by omega)
set_option maxRecDepth 20000 in
theorem s_onDisk_i {fl : Bool} {d : Nat} {f : tw_S} {P : tw_S → Option tw_A → Prop} {i s : Nat} (hi : i < 5) (hs : s < 8) (hm : f 5 (i * 8 + s) = 0) (hP : P f (some (tw_I (f 4 (i * 8 + s))))) : tS fl (d + 2) 108 [tw_R 0, tw_I (nI i), tw_I (nI s)] f P := by
  refine tw_Sp_of rfl rfl (Nat.le_of_ble_eq_true rfl) (fun X h => ?_)
  refine zi_iload_n h rfl rfl ?_
  refine zk_S h [_] rfl rfl rfl (Nat.le_of_ble_eq_true rfl) (s_dsk1 hi ?_)
  first | refine zb_ifeq h rfl (fun hc => ?_) (fun hc => ?_) | refine zc_ifeq h rfl (fun hc => ?_) (fun hc => ?_)
  · exact absurd hc (by decide)
  · refine zi_iload_n h rfl rfl ?_
    refine zk_S h [_] rfl rfl rfl (Nat.le_of_ble_eq_true rfl) (s_str1 hs ?_)
    first | refine zb_ifeq h rfl (fun hc => ?_) (fun hc => ?_) | refine zc_ifeq h rfl (fun hc => ?_) (fun hc => ?_)
    · exact absurd hc (by decide)
    · refine zi_aload_n h rfl rfl ?_
      refine zg_ref h rfl (by first | rfl | assumption) (by decide) rfl rfl ?_
      refine zi_iload_n h rfl rfl ?_
      refine zi_iload_n h rfl rfl ?_
      refine zk_V h [_, _] rfl (by first | rfl | assumption) rfl rfl (Nat.le_of_ble_eq_true rfl) (s_isMissing hi hs ?_)
      first | refine zb_ifeq h rfl (fun hc => ?_) (fun hc => ?_) | refine zc_ifeq h rfl (fun hc => ?_) (fun hc => ?_)
      · refine zi_aload_n h rfl rfl ?_
        refine zg_ref h rfl (by first | rfl | assumption) (by decide) rfl rfl ?_
        refine zi_iload_n h rfl rfl ?_
        refine zi_iload_n h rfl rfl ?_
        refine zk_V h [_, _] rfl (by first | rfl | assumption) rfl rfl (Nat.le_of_ble_eq_true rfl) (s_blockOn hi hs ?_)
        refine zi_iret h rfl ?_
        exact hP
      · exact absurd hm hc
set_option maxRecDepth 20000 in
theorem s_step_x {fl : Bool} {d : Nat} {f : tw_S} {P : tw_S → Option tw_A → Prop} {x : Int32} (hx : ¬ (x = 0 ∨ x = 1)) (hP : P f (some (tw_I (-1)))) : tS fl (d + 8) 83 [tw_R 0, tw_I x] f P := by
  refine tw_Sp_of rfl rfl (Nat.le_of_ble_eq_true rfl) (fun X h => ?_)
  refine zi_iload_n h rfl rfl ?_
  refine zk_S h [_] rfl rfl rfl (Nat.le_of_ble_eq_true rfl) (s_ctl0 hx ?_)
  first | refine zb_ifne h rfl (fun hc => ?_) (fun hc => ?_) | refine zc_ifne h rfl (fun hc => ?_) (fun hc => ?_)
  · exact absurd rfl hc
  · refine zi_iconst h rfl ?_
    refine zi_iret h rfl ?_
    exact hP
set_option maxRecDepth 20000 in
theorem s_step_c {fl : Bool} {d : Nat} {f : tw_S} {P : tw_S → Option tw_A → Prop} {c q : Nat} (hc : c < 2) (hqc : q = 17 + 22 * c) (h1 : f q 6 = 0 → P f (some (tw_I 0))) (h2 : ¬ f q 6 = 0 → tS fl (d + 7) 82 [tw_R 0, tw_R q] f (fun f2 r => ∃ x, r = some (tw_I x) ∧ P f2 r)) : tS fl (d + 8) 83 [tw_R 0, tw_I (nI c)] f P := by
  have hcc := hc
  have hq : q = 17 ∨ q = 39 := by omega
  have lc := tx_ctl hq
  obtain ⟨a0, a1, a2, a3, a4⟩ := tx_ent (tx_c1 hq)
  obtain ⟨m0, m1, m2, m3, m4⟩ := tx_ent (tx_c6 hq)
  obtain ⟨i0, i1, i2, i3, i4, i5⟩ := tx_inb (tx_c11 hq)
  obtain ⟨d0, d1, d2, d3⟩ := tx_des (tx_c17 hq)
  have w0 := tx_dwr (tx_c21 hq)
  refine tw_Sp_of rfl rfl (Nat.le_of_ble_eq_true rfl) (fun X h => ?_)
  refine zi_iload_n h rfl rfl ?_
  refine zk_S h [_] rfl rfl rfl (Nat.le_of_ble_eq_true rfl) (s_ctl1 hcc ?_)
  first | refine zb_ifne h rfl (fun hc => ?_) (fun hc => ?_) | refine zc_ifne h rfl (fun hc => ?_) (fun hc => ?_)
  · refine zi_aload_n h rfl rfl ?_
    refine zi_iload_n h rfl rfl ?_
    refine zk_V h [_] rfl (by first | rfl | assumption) rfl rfl (Nat.le_of_ble_eq_true rfl) (s_num hcc hqc ?_)
    refine zi_astore_n h rfl (Nat.le_of_ble_eq_true rfl) ?_
    refine zi_aload_n h rfl rfl ?_
    refine zg_boo h rfl (by first | rfl | assumption) (by decide) rfl ?_
    first | refine zb_ifeq h rfl (fun hc => ?_) (fun hc => ?_) | refine zc_ifeq h rfl (fun hc => ?_) (fun hc => ?_)
    · refine zn_iconst h 0 rfl rfl ?_
      refine zi_iret h rfl ?_
      exact h1 hc
    · refine zi_aload_n h rfl rfl ?_
      refine zi_aload_n h rfl rfl ?_
      refine zk_V h [_] rfl (by first | rfl | assumption) rfl rfl (Nat.le_of_ble_eq_true rfl) (tw_Sp_mono (h2 hc) (fun f2 r k => ?_))
      obtain ⟨x, rfl, k⟩ := k
      refine zi_goto h rfl ?_
      refine zi_iret h rfl ?_
      exact k
  · exact absurd hc (by decide)
