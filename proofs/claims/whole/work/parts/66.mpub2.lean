/-! The reference: its public methods (2). -/
set_option maxRecDepth 20000 in
theorem s_m_write_x {fl : Bool} {d : Nat} {f : tw_S} {P : tw_S → Option tw_A → Prop} {x y z : Int32} {tm : Nat} {g : tw_S} (hg : tw_up f 61 0 0 = g) (ht : g 61 39 = nI tm) (ht2 : tm ≤ 200) (hx : (x < 0 ∨ nI 2 ≤ x) ∨ (∃ i, i < 2 ∧ x = nI i) ∧ ((y < 0 ∨ nI 32 ≤ y) ∨ (∃ j, j < 32 ∧ y = nI j) ∧ tm = 200)) (hP : P g (some (tw_I (-1)))) : tS fl (d + 2) 115 [tw_R 61, tw_I x, tw_I y, tw_I z] f P := by
  refine tw_Sp_of rfl rfl (Nat.le_of_ble_eq_true rfl) (fun X h => ?_)
  refine zi_aload_n h rfl rfl ?_
  refine zn_iconst h 0 rfl rfl ?_
  refine zp_int h rfl (by first | rfl | assumption) (by decide) rfl ?_
  refine tw_mem (g := g) (fun q j => by rw [← hg]; rfl) ?_
  rcases hx with hx | ⟨⟨i, hi, rfl⟩, hy | ⟨⟨j, hj, rfl⟩, h200⟩⟩
  · refine zi_iload_n h rfl rfl ?_
    refine zn_iconst h 0 rfl rfl ?_
    refine zn_iconst h 1 rfl rfl ?_
    refine zk_S h [_, _, _] rfl rfl rfl (Nat.le_of_ble_eq_true rfl) (s_k_in0 (by omega) hx ?_)
    first | refine zb_ifeq h rfl (fun hc => ?_) (fun hc => ?_) | refine zc_ifeq h rfl (fun hc => ?_) (fun hc => ?_)
    · refine zi_iconst h rfl ?_
      refine zi_iret h rfl ?_
      exact hP
    · exact absurd rfl hc
  · refine zi_iload_n h rfl rfl ?_
    refine zn_iconst h 0 rfl rfl ?_
    refine zn_iconst h 1 rfl rfl ?_
    refine zk_S h [_, _, _] rfl rfl rfl (Nat.le_of_ble_eq_true rfl) (s_k_in1 (by omega) (by omega) ?_)
    first | refine zb_ifeq h rfl (fun hc => ?_) (fun hc => ?_) | refine zc_ifeq h rfl (fun hc => ?_) (fun hc => ?_)
    · exact absurd hc (by decide)
    · refine zi_iload_n h rfl rfl ?_
      refine zn_iconst h 0 rfl rfl ?_
      refine zn_bipush h 31 rfl rfl ?_
      refine zk_S h [_, _, _] rfl rfl rfl (Nat.le_of_ble_eq_true rfl) (s_k_in0 (by omega) hy ?_)
      first | refine zb_ifeq h rfl (fun hc => ?_) (fun hc => ?_) | refine zc_ifeq h rfl (fun hc => ?_) (fun hc => ?_)
      · refine zi_iconst h rfl ?_
        refine zi_iret h rfl ?_
        exact hP
      · exact absurd rfl hc
  · refine zi_iload_n h rfl rfl ?_
    refine zn_iconst h 0 rfl rfl ?_
    refine zn_iconst h 1 rfl rfl ?_
    refine zk_S h [_, _, _] rfl rfl rfl (Nat.le_of_ble_eq_true rfl) (s_k_in1 (by omega) (by omega) ?_)
    first | refine zb_ifeq h rfl (fun hc => ?_) (fun hc => ?_) | refine zc_ifeq h rfl (fun hc => ?_) (fun hc => ?_)
    · exact absurd hc (by decide)
    · refine zi_iload_n h rfl rfl ?_
      refine zn_iconst h 0 rfl rfl ?_
      refine zn_bipush h 31 rfl rfl ?_
      refine zk_S h [_, _, _] rfl rfl rfl (Nat.le_of_ble_eq_true rfl) (s_k_in1 (by omega) (by omega) ?_)
      first | refine zb_ifeq h rfl (fun hc => ?_) (fun hc => ?_) | refine zc_ifeq h rfl (fun hc => ?_) (fun hc => ?_)
      · exact absurd hc (by decide)
      · refine zi_aload_n h rfl rfl ?_
        refine zg_nat h tm rfl (by first | rfl | assumption) (by decide) rfl ht ?_
        refine zn_sipush h 200 rfl rfl ?_
        first | refine zn_icmpne h rfl (by omega) (by omega) (fun hc => ?_) (fun hc => ?_) | refine zc_icmpne h rfl (fun hc => ?_) (fun hc => ?_)
        · omega
        · refine zi_iconst h rfl ?_
          refine zi_iret h rfl ?_
          exact hP
def k_w (f : tw_S) (c b : Nat) (v : Int32) (tm : Nat) : tw_S := tw_up (tw_up (k_keep1 (k_tick f (nI c) (nI b) v) c b v) 99 tm 0) 103 tm (f 96 c + 1)
theorem k_tick_off {f : tw_S} {q j : Nat} {a b v : Int32} (h : ¬ (99 ≤ q ∧ q ≤ 103) ∧ ¬ (q = 61 ∧ j = 39)) : k_tick f a b v q j = f q j := by
  unfold k_tick
  rw [tw_off (by omega), tw_off (by omega), tw_off (by omega), tw_off (by omega), tw_off (by omega), tw_off (by omega)]
theorem k_keep1_off {f : tw_S} {c b q j : Nat} {v : Int32} (h : ¬ (70 ≤ q ∧ q ≤ 73) ∧ ¬ (q = 96)) : k_keep1 f c b v q j = f q j := by
  unfold k_keep1
  rw [tw_off (by omega), tw_off (by omega), tw_off (by omega), tw_off (by omega), tw_off (by omega), tw_off (by omega)]
theorem k_keep1_96 {f : tw_S} {c b : Nat} {v : Int32} : k_keep1 f c b v 96 c = f 96 c + 1 := by
  unfold k_keep1
  rw [tw_off (by omega)]
  simp [tw_up]
theorem k_keep0_off {f : tw_S} {c b q j : Nat} {v : Int32} (h : ¬ (70 ≤ q ∧ q ≤ 73)) : k_keep0 f c b v q j = f q j := by
  unfold k_keep0
  rw [tw_off (by omega), tw_off (by omega), tw_off (by omega), tw_off (by omega)]
set_option maxRecDepth 20000 in
theorem s_m_write_c {fl : Bool} {d : Nat} {f : tw_S} {P : tw_S → Option tw_A → Prop} {c b m tm : Nat} {v : Int32} {g : tw_S} (hg : tw_up f 61 0 0 = g) (hc : c < 2) (hb : b < 32) (ht : g 61 39 = nI tm) (ht2 : tm < 200) (hm : g 98 (1 - c) = nI m) (hm2 : m ≤ 40) (h1 : ¬ (¬ g 66 c = 0 ∧ ¬ g 69 (2 * c + b / 16) = 0) → P (k_tick g (nI c) (nI b) v) (some (tw_I (nI tm)))) (h2 : (¬ g 66 c = 0 ∧ ¬ g 69 (2 * c + b / 16) = 0) → g 68 c = 0 → P (k_w g c b v tm) (some (tw_I (nI tm)))) (h3 : (¬ g 66 c = 0 ∧ ¬ g 69 (2 * c + b / 16) = 0) → ¬ g 68 c = 0 → P (k_send (k_w g c b v tm) c 0 (nI b) v (g 96 c + 1) (nI tm)) (some (tw_I (nI tm)))) : tS fl (d + 2) 115 [tw_R 61, tw_I (nI c), tw_I (nI b), tw_I v] f P := by
  have hcc := hc
  refine tw_Sp_of rfl rfl (Nat.le_of_ble_eq_true rfl) (fun X h => ?_)
  have e66 : k_tick g (nI c) (nI b) v 66 c = g 66 c := k_tick_off (by omega)
  have e69 : k_tick g (nI c) (nI b) v 69 (2 * c + b / 16) = g 69 (2 * c + b / 16) := k_tick_off (by omega)
  have e96 : k_keep1 (k_tick g (nI c) (nI b) v) c b v 96 c = g 96 c + 1 := by rw [k_keep1_96, k_tick_off (by omega)]
  have e68 : k_keep1 (k_tick g (nI c) (nI b) v) c b v 68 c = g 68 c := by rw [k_keep1_off (by omega), k_tick_off (by omega)]
  have e98 : k_keep1 (k_tick g (nI c) (nI b) v) c b v 98 (1 - c) = g 98 (1 - c) := by rw [k_keep1_off (by omega), k_tick_off (by omega)]
  unfold k_w at h2 h3
  refine zi_aload_n h rfl rfl ?_
  refine zn_iconst h 0 rfl rfl ?_
  refine zp_int h rfl (by first | rfl | assumption) (by decide) rfl ?_
  refine tw_mem (g := g) (fun q j => by rw [← hg]; rfl) ?_
  refine zi_iload_n h rfl rfl ?_
  refine zn_iconst h 0 rfl rfl ?_
  refine zn_iconst h 1 rfl rfl ?_
  refine zk_S h [_, _, _] rfl rfl rfl (Nat.le_of_ble_eq_true rfl) (s_k_in1 (by omega) (by omega) ?_)
  first | refine zb_ifeq h rfl (fun hc => ?_) (fun hc => ?_) | refine zc_ifeq h rfl (fun hc => ?_) (fun hc => ?_)
  · exact absurd hc (by decide)
  · refine zi_iload_n h rfl rfl ?_
    refine zn_iconst h 0 rfl rfl ?_
    refine zn_bipush h 31 rfl rfl ?_
    refine zk_S h [_, _, _] rfl rfl rfl (Nat.le_of_ble_eq_true rfl) (s_k_in1 (by omega) (by omega) ?_)
    first | refine zb_ifeq h rfl (fun hc => ?_) (fun hc => ?_) | refine zc_ifeq h rfl (fun hc => ?_) (fun hc => ?_)
    · exact absurd hc (by decide)
    · refine zi_aload_n h rfl rfl ?_
      refine zg_nat h tm rfl (by first | rfl | assumption) (by decide) rfl ht ?_
      refine zn_sipush h 200 rfl rfl ?_
      first | refine zn_icmpne h rfl (by omega) (by omega) (fun hc => ?_) (fun hc => ?_) | refine zc_icmpne h rfl (fun hc => ?_) (fun hc => ?_)
      · refine zi_aload_n h rfl rfl ?_
        refine zi_iload_n h rfl rfl ?_
        refine zi_iload_n h rfl rfl ?_
        refine zi_iload_n h rfl rfl ?_
        refine zk_V h [_, _, _] rfl (by first | rfl | assumption) rfl rfl (Nat.le_of_ble_eq_true rfl) (s_k_tick ht ht2 ?_)
        refine zi_istore h rfl (Nat.le_of_ble_eq_true rfl) ?_
        refine zi_aload_n h rfl rfl ?_
        refine zg_ref h rfl (by first | rfl | assumption) (by decide) rfl rfl ?_
        refine zi_iload_n h rfl rfl ?_
        refine za_z h rfl (by first | rfl | assumption) rfl (by omega) (by decide) ?_
        rw [e66]
        refine zb_ifeq h rfl (fun hc => ?_) (fun hc => ?_)
        · refine zi_iload h rfl rfl ?_
          refine zi_iret h rfl ?_
          exact h1 (fun u => u.1 hc)
        · have c1 := hc
          refine zi_aload_n h rfl rfl ?_
          refine zg_ref h rfl (by first | rfl | assumption) (by decide) rfl rfl ?_
          refine zn_iconst h 2 rfl rfl ?_
          refine zi_iload_n h rfl rfl ?_
          first | refine zn_imul h rfl ?_ | refine zi_imul h rfl ?_
          refine zi_iload_n h rfl rfl ?_
          refine zn_bipush h 16 rfl rfl ?_
          refine zn_idiv h rfl (by omega) (by omega) (by omega) ?_
          first | refine zn_iadd h rfl ?_ | refine zi_iadd h rfl ?_
          refine za_z h rfl (by first | rfl | assumption) rfl (by omega) (by decide) ?_
          rw [e69]
          refine zb_ifne h rfl (fun hc => ?_) (fun hc => ?_)
          · have h2 := h2 ⟨c1, hc⟩
            have h3 := h3 ⟨c1, hc⟩
            refine zi_aload_n h rfl rfl ?_
            refine zi_iload_n h rfl rfl ?_
            refine zi_iload_n h rfl rfl ?_
            refine zi_iload_n h rfl rfl ?_
            refine zn_iconst h 1 rfl rfl ?_
            refine zk_V h [_, _, _, _] rfl (by first | rfl | assumption) rfl rfl (Nat.le_of_ble_eq_true rfl) (s_k_keep1 hcc hb ?_)
            generalize k_keep1 (k_tick g (nI c) (nI b) v) c b v = w at h2 h3 e96 e68 e98 ⊢
            have f96 : tw_up w 99 tm 0 96 c = g 96 c + 1 := by rw [tw_off (by omega)]; exact e96
            have f68 : tw_up (tw_up w 99 tm 0) 103 tm (g 96 c + 1) 68 c = g 68 c := by rw [tw_off (by omega), tw_off (by omega)]; exact e68
            have f96b : tw_up (tw_up w 99 tm 0) 103 tm (g 96 c + 1) 96 c = g 96 c + 1 := by rw [tw_off (by omega), tw_off (by omega)]; exact e96
            have f98 : tw_up (tw_up w 99 tm 0) 103 tm (g 96 c + 1) 98 (1 - c) = g 98 (1 - c) := by rw [tw_off (by omega), tw_off (by omega)]; exact e98
            refine zi_aload_n h rfl rfl ?_
            refine zg_ref h rfl (by first | rfl | assumption) (by decide) rfl rfl ?_
            refine zi_iload h rfl rfl ?_
            refine zn_iconst h 0 rfl rfl ?_
            refine zs_i h rfl (by first | rfl | assumption) rfl (by omega) (by decide) ?_
            refine tw_mem (g := tw_up w 99 tm 0) (fun _ _ => rfl) ?_
            refine zi_aload_n h rfl rfl ?_
            refine zg_ref h rfl (by first | rfl | assumption) (by decide) rfl rfl ?_
            refine zi_iload h rfl rfl ?_
            refine zi_aload_n h rfl rfl ?_
            refine zg_ref h rfl (by first | rfl | assumption) (by decide) rfl rfl ?_
            refine zi_iload_n h rfl rfl ?_
            refine za_i h rfl (by first | rfl | assumption) rfl (by omega) (by decide) ?_
            rw [f96]
            refine zs_i h rfl (by first | rfl | assumption) rfl (by omega) (by decide) ?_
            refine zi_aload_n h rfl rfl ?_
            refine zg_ref h rfl (by first | rfl | assumption) (by decide) rfl rfl ?_
            refine zi_iload_n h rfl rfl ?_
            refine za_z h rfl (by first | rfl | assumption) rfl (by omega) (by decide) ?_
            rw [f68]
            refine zb_ifeq h rfl (fun hc => ?_) (fun hc => ?_)
            · refine zi_iload h rfl rfl ?_
              refine zi_iret h rfl ?_
              exact h2 hc
            · refine zi_aload_n h rfl rfl ?_
              refine zi_iload_n h rfl rfl ?_
              refine zn_iconst h 0 rfl rfl ?_
              refine zi_iload_n h rfl rfl ?_
              refine zi_iload_n h rfl rfl ?_
              refine zi_aload_n h rfl rfl ?_
              refine zg_ref h rfl (by first | rfl | assumption) (by decide) rfl rfl ?_
              refine zi_iload_n h rfl rfl ?_
              refine za_i h rfl (by first | rfl | assumption) rfl (by omega) (by decide) ?_
              rw [f96b]
              refine zi_iload h rfl rfl ?_
              refine zk_V h [_, _, _, _, _, _] rfl (by first | rfl | assumption) rfl rfl (Nat.le_of_ble_eq_true rfl) (s_k_send hcc (by rw [f98]; exact hm) hm2 ?_)
              refine zi_iload h rfl rfl ?_
              refine zi_iret h rfl ?_
              exact h3 hc
          · refine zi_iload h rfl rfl ?_
            refine zi_iret h rfl ?_
            exact h1 (fun u => u.2 hc)
      · omega
set_option maxRecDepth 20000 in
theorem s_m_read_x {fl : Bool} {d : Nat} {f : tw_S} {P : tw_S → Option tw_A → Prop} {x y : Int32} {tm : Nat} {g : tw_S} (hg : tw_up f 61 0 0 = g) (ht : g 61 39 = nI tm) (ht2 : tm ≤ 200) (hx : (x < 0 ∨ nI 2 ≤ x) ∨ (∃ i, i < 2 ∧ x = nI i) ∧ ((y < 0 ∨ nI 32 ≤ y) ∨ (∃ j, j < 32 ∧ y = nI j) ∧ tm = 200)) (hP : P g (some (tw_I (-1)))) : tS fl (d + 4) 124 [tw_R 61, tw_I x, tw_I y] f P := by
  refine tw_Sp_of rfl rfl (Nat.le_of_ble_eq_true rfl) (fun X h => ?_)
  refine zi_aload_n h rfl rfl ?_
  refine zn_iconst h 0 rfl rfl ?_
  refine zp_int h rfl (by first | rfl | assumption) (by decide) rfl ?_
  refine tw_mem (g := g) (fun q j => by rw [← hg]; rfl) ?_
  rcases hx with hx | ⟨⟨i, hi, rfl⟩, hy | ⟨⟨j, hj, rfl⟩, h200⟩⟩
  · refine zi_iload_n h rfl rfl ?_
    refine zn_iconst h 0 rfl rfl ?_
    refine zn_iconst h 1 rfl rfl ?_
    refine zk_S h [_, _, _] rfl rfl rfl (Nat.le_of_ble_eq_true rfl) (s_k_in0 (by omega) hx ?_)
    first | refine zb_ifeq h rfl (fun hc => ?_) (fun hc => ?_) | refine zc_ifeq h rfl (fun hc => ?_) (fun hc => ?_)
    · refine zi_iconst h rfl ?_
      refine zi_iret h rfl ?_
      exact hP
    · exact absurd rfl hc
  · refine zi_iload_n h rfl rfl ?_
    refine zn_iconst h 0 rfl rfl ?_
    refine zn_iconst h 1 rfl rfl ?_
    refine zk_S h [_, _, _] rfl rfl rfl (Nat.le_of_ble_eq_true rfl) (s_k_in1 (by omega) (by omega) ?_)
    first | refine zb_ifeq h rfl (fun hc => ?_) (fun hc => ?_) | refine zc_ifeq h rfl (fun hc => ?_) (fun hc => ?_)
    · exact absurd hc (by decide)
    · refine zi_iload_n h rfl rfl ?_
      refine zn_iconst h 0 rfl rfl ?_
      refine zn_bipush h 31 rfl rfl ?_
      refine zk_S h [_, _, _] rfl rfl rfl (Nat.le_of_ble_eq_true rfl) (s_k_in0 (by omega) hy ?_)
      first | refine zb_ifeq h rfl (fun hc => ?_) (fun hc => ?_) | refine zc_ifeq h rfl (fun hc => ?_) (fun hc => ?_)
      · refine zi_iconst h rfl ?_
        refine zi_iret h rfl ?_
        exact hP
      · exact absurd rfl hc
  · refine zi_iload_n h rfl rfl ?_
    refine zn_iconst h 0 rfl rfl ?_
    refine zn_iconst h 1 rfl rfl ?_
    refine zk_S h [_, _, _] rfl rfl rfl (Nat.le_of_ble_eq_true rfl) (s_k_in1 (by omega) (by omega) ?_)
    first | refine zb_ifeq h rfl (fun hc => ?_) (fun hc => ?_) | refine zc_ifeq h rfl (fun hc => ?_) (fun hc => ?_)
    · exact absurd hc (by decide)
    · refine zi_iload_n h rfl rfl ?_
      refine zn_iconst h 0 rfl rfl ?_
      refine zn_bipush h 31 rfl rfl ?_
      refine zk_S h [_, _, _] rfl rfl rfl (Nat.le_of_ble_eq_true rfl) (s_k_in1 (by omega) (by omega) ?_)
      first | refine zb_ifeq h rfl (fun hc => ?_) (fun hc => ?_) | refine zc_ifeq h rfl (fun hc => ?_) (fun hc => ?_)
      · exact absurd hc (by decide)
      · refine zi_aload_n h rfl rfl ?_
        refine zg_nat h tm rfl (by first | rfl | assumption) (by decide) rfl ht ?_
        refine zn_sipush h 200 rfl rfl ?_
        first | refine zn_icmpne h rfl (by omega) (by omega) (fun hc => ?_) (fun hc => ?_) | refine zc_icmpne h rfl (fun hc => ?_) (fun hc => ?_)
        · omega
        · refine zi_iconst h rfl ?_
          refine zi_iret h rfl ?_
          exact hP
set_option maxRecDepth 20000 in
theorem s_m_read_c {fl : Bool} {d : Nat} {f : tw_S} {P : tw_S → Option tw_A → Prop} {c b lm tm : Nat} {g w : tw_S} (hg : tw_up f 61 0 0 = g) (hw : k_tick g (nI c) (nI b) 0 = w) (hc : c < 2) (hb : b < 32) (hl : g 61 45 = nI lm) (hl2 : lm ≤ 20) (ht : g 61 39 = nI tm) (ht2 : tm < 200) (h1 : ¬ (¬ g 66 c = 0 ∧ ¬ g 69 (2 * c + b / 16) = 0) → P w (some (tw_I (nI tm)))) (h2 : (¬ g 66 c = 0 ∧ ¬ g 69 (2 * c + b / 16) = 0) → ¬ p_other (g 62) (g 63) (g 67 c) 5 < 3 → P (k_down w c) (some (tw_I (nI tm)))) (h3 : (¬ g 66 c = 0 ∧ ¬ g 69 (2 * c + b / 16) = 0) → p_other (g 62) (g 63) (g 67 c) 5 < 3 → ¬ g 70 (32 * c + b) = 0 → P (tw_up (tw_up w 99 tm 1) 100 tm (g 71 (32 * c + b))) (some (tw_I (nI tm)))) (h4 : (¬ g 66 c = 0 ∧ ¬ g 69 (2 * c + b / 16) = 0) → p_other (g 62) (g 63) (g 67 c) 5 < 3 → g 70 (32 * c + b) = 0 → p_lost (g 65) b → P w (some (tw_I (nI tm)))) (h5 : (¬ g 66 c = 0 ∧ ¬ g 69 (2 * c + b / 16) = 0) → p_other (g 62) (g 63) (g 67 c) 5 < 3 → g 70 (32 * c + b) = 0 → ¬ p_lost (g 65) b → P (tw_up (tw_up (k_keep0 w c b (p_what (g 65) (g 64) b)) 99 tm 1) 100 tm (p_what (g 65) (g 64) b)) (some (tw_I (nI tm)))) : tS fl (d + 4) 124 [tw_R 61, tw_I (nI c), tw_I (nI b)] f P := by
  have hcc := hc
  refine tw_Sp_of rfl rfl (Nat.le_of_ble_eq_true rfl) (fun X h => ?_)
  have woff : ∀ q j, ¬ (99 ≤ q ∧ q ≤ 103) ∧ ¬ (q = 61 ∧ j = 39) → w q j = g q j := fun q j u => by rw [← hw]; exact k_tick_off u
  have w39 : w 61 39 = nI (tm + 1) := by
    rw [← hw, k_tick, ht, nI_1]
    simp [tw_up]
  have e62 : w 62 = g 62 := funext fun j => woff _ _ (by omega)
  have e63 : w 63 = g 63 := funext fun j => woff _ _ (by omega)
  have e64 : w 64 = g 64 := funext fun j => woff _ _ (by omega)
  have e65 : w 65 = g 65 := funext fun j => woff _ _ (by omega)
  have hkeep : ∀ x : Int32, k_keep0 w c b x 71 (32 * c + b) = x := fun x => by
    unfold k_keep0
    rw [tw_off (by omega), tw_off (by omega)]
    simp [tw_up]
  refine zi_aload_n h rfl rfl ?_
  refine zn_iconst h 0 rfl rfl ?_
  refine zp_int h rfl (by first | rfl | assumption) (by decide) rfl ?_
  refine tw_mem (g := g) (fun q j => by rw [← hg]; rfl) ?_
  refine zi_iload_n h rfl rfl ?_
  refine zn_iconst h 0 rfl rfl ?_
  refine zn_iconst h 1 rfl rfl ?_
  refine zk_S h [_, _, _] rfl rfl rfl (Nat.le_of_ble_eq_true rfl) (s_k_in1 (by omega) (by omega) ?_)
  first | refine zb_ifeq h rfl (fun hc => ?_) (fun hc => ?_) | refine zc_ifeq h rfl (fun hc => ?_) (fun hc => ?_)
  · exact absurd hc (by decide)
  · refine zi_iload_n h rfl rfl ?_
    refine zn_iconst h 0 rfl rfl ?_
    refine zn_bipush h 31 rfl rfl ?_
    refine zk_S h [_, _, _] rfl rfl rfl (Nat.le_of_ble_eq_true rfl) (s_k_in1 (by omega) (by omega) ?_)
    first | refine zb_ifeq h rfl (fun hc => ?_) (fun hc => ?_) | refine zc_ifeq h rfl (fun hc => ?_) (fun hc => ?_)
    · exact absurd hc (by decide)
    · refine zi_aload_n h rfl rfl ?_
      refine zg_nat h tm rfl (by first | rfl | assumption) (by decide) rfl ht ?_
      refine zn_sipush h 200 rfl rfl ?_
      first | refine zn_icmpne h rfl (by omega) (by omega) (fun hc => ?_) (fun hc => ?_) | refine zc_icmpne h rfl (fun hc => ?_) (fun hc => ?_)
      · refine zi_aload_n h rfl rfl ?_
        refine zi_iload_n h rfl rfl ?_
        refine zi_iload_n h rfl rfl ?_
        refine zn_iconst h 0 rfl rfl ?_
        refine zk_V h [_, _, _] rfl (by first | rfl | assumption) rfl rfl (Nat.le_of_ble_eq_true rfl) (s_k_tick ht ht2 ?_)
        refine tw_mem (g := w) (fun q j => by rw [← hw]; rfl) ?_
        refine zi_istore_n h rfl (Nat.le_of_ble_eq_true rfl) ?_
        refine zi_aload_n h rfl rfl ?_
        refine zg_ref h rfl (by first | rfl | assumption) (by decide) rfl rfl ?_
        refine zi_iload_n h rfl rfl ?_
        refine za_z h rfl (by first | rfl | assumption) rfl (by omega) (by decide) ?_
        rw [woff 66 c (by omega)]
        refine zb_ifeq h rfl (fun hc => ?_) (fun hc => ?_)
        · refine zi_iload_n h rfl rfl ?_
          refine zi_iret h rfl ?_
          exact h1 (fun u => u.1 hc)
        · have c1 := hc
          refine zi_aload_n h rfl rfl ?_
          refine zg_ref h rfl (by first | rfl | assumption) (by decide) rfl rfl ?_
          refine zn_iconst h 2 rfl rfl ?_
          refine zi_iload_n h rfl rfl ?_
          first | refine zn_imul h rfl ?_ | refine zi_imul h rfl ?_
          refine zi_iload_n h rfl rfl ?_
          refine zn_bipush h 16 rfl rfl ?_
          refine zn_idiv h rfl (by omega) (by omega) (by omega) ?_
          first | refine zn_iadd h rfl ?_ | refine zi_iadd h rfl ?_
          refine za_z h rfl (by first | rfl | assumption) rfl (by omega) (by decide) ?_
          rw [woff 69 _ (by omega)]
          refine zb_ifne h rfl (fun hc => ?_) (fun hc => ?_)
          · have c12 := And.intro c1 hc
            have end9 : ∀ (y : tw_S) (x : Int32), y 71 (32 * c + b) = x → P (tw_up (tw_up y 99 tm 1) 100 tm x) (some (tw_I (nI tm))) → ∀ l4 l5 : Option tw_A, X 98 [some (tw_R 61), some (tw_I (nI c)), some (tw_I (nI b)), some (tw_I (nI tm)), l4, l5] [] tx_L0 y := by
              intro y x hy hP l4 l5
              have r : tw_up y 99 tm 1 71 (32 * c + b) = x := by rw [tw_off (by omega)]; exact hy
              refine zi_aload_n h rfl rfl ?_
              refine zg_ref h rfl (by first | rfl | assumption) (by decide) rfl rfl ?_
              refine zi_iload_n h rfl rfl ?_
              refine zn_iconst h 1 rfl rfl ?_
              refine zs_i h rfl (by first | rfl | assumption) rfl (by omega) (by decide) ?_
              refine tw_mem (g := tw_up y 99 tm 1) (fun _ _ => rfl) ?_
              refine zi_aload_n h rfl rfl ?_
              refine zg_ref h rfl (by first | rfl | assumption) (by decide) rfl rfl ?_
              refine zi_iload_n h rfl rfl ?_
              refine zi_aload_n h rfl rfl ?_
              refine zg_ref h rfl (by first | rfl | assumption) (by decide) rfl rfl ?_
              refine zn_bipush h 32 rfl rfl ?_
              refine zi_iload_n h rfl rfl ?_
              first | refine zn_imul h rfl ?_ | refine zi_imul h rfl ?_
              refine zi_iload_n h rfl rfl ?_
              first | refine zn_iadd h rfl ?_ | refine zi_iadd h rfl ?_
              show X 113 _ _ _ _
              refine za_i h rfl (by first | rfl | assumption) rfl (by omega) (by decide) ?_
              rw [r]
              refine zs_i h rfl (by first | rfl | assumption) rfl (by omega) (by decide) ?_
              refine zi_iload_n h rfl rfl ?_
              refine zi_iret h rfl ?_
              exact hP
            have loop : ∀ n i : Nat, i + n = 5 → X 47 [some (tw_R 61), some (tw_I (nI c)), some (tw_I (nI b)), some (tw_I (nI tm)), some (tw_I (nI (p_other (g 62) (g 63) (g 67 c) i))), some (tw_I (nI i))] [] tx_L0 w := by
              intro n
              induction n with
              | zero =>
                intro i hi
                obtain rfl : i = 5 := by omega
                have hle : p_other (g 62) (g 63) (g 67 c) 5 ≤ 5 := by
                  simp only [p_other]
                  (repeat' split) <;> omega
                refine zi_iload h rfl rfl ?_
                refine zn_iconst h 5 rfl rfl ?_
                first | refine zn_icmpge h rfl (by omega) (by omega) (fun hc => ?_) (fun hc => ?_) | refine zc_icmpge h rfl (fun hc => ?_) (fun hc => ?_)
                · refine zi_iload h rfl rfl ?_
                  refine zn_iconst h 3 rfl rfl ?_
                  first | refine zn_icmplt h rfl (by omega) (by omega) (fun hc => ?_) (fun hc => ?_) | refine zc_icmplt h rfl (fun hc => ?_) (fun hc => ?_)
                  · have c3 := hc
                    refine zi_aload_n h rfl rfl ?_
                    refine zg_ref h rfl (by first | rfl | assumption) (by decide) rfl rfl ?_
                    refine zn_bipush h 32 rfl rfl ?_
                    refine zi_iload_n h rfl rfl ?_
                    first | refine zn_imul h rfl ?_ | refine zi_imul h rfl ?_
                    refine zi_iload_n h rfl rfl ?_
                    first | refine zn_iadd h rfl ?_ | refine zi_iadd h rfl ?_
                    refine za_z h rfl (by first | rfl | assumption) rfl (by omega) (by decide) ?_
                    rw [woff 70 _ (by omega)]
                    refine zb_ifne h rfl (fun hc => ?_) (fun hc => ?_)
                    · exact end9 w _ (woff 71 _ (by omega)) (h3 c12 c3 hc) _ _
                    · refine zi_aload_n h rfl rfl ?_
                      refine zi_iload_n h rfl rfl ?_
                      refine zk_V h [_] rfl (by first | rfl | assumption) rfl rfl (Nat.le_of_ble_eq_true rfl) (s_k_isLost hb (fun u => ?_) (fun u => ?_))
                      · rw [e65] at u
                        have c4 := hc
                        first | refine zb_ifeq h rfl (fun hc => ?_) (fun hc => ?_) | refine zc_ifeq h rfl (fun hc => ?_) (fun hc => ?_)
                        · exact absurd hc (by decide)
                        · refine zi_iload_n h rfl rfl ?_
                          refine zi_iret h rfl ?_
                          exact h4 c12 c3 c4 u
                      · rw [e65] at u
                        have c4 := hc
                        first | refine zb_ifeq h rfl (fun hc => ?_) (fun hc => ?_) | refine zc_ifeq h rfl (fun hc => ?_) (fun hc => ?_)
                        · refine zi_aload_n h rfl rfl ?_
                          refine zi_iload_n h rfl rfl ?_
                          refine zi_iload_n h rfl rfl ?_
                          refine zi_aload_n h rfl rfl ?_
                          refine zi_iload_n h rfl rfl ?_
                          refine zk_V h [_] rfl (by first | rfl | assumption) rfl rfl (Nat.le_of_ble_eq_true rfl) (s_k_what hb ?_)
                          rw [e65, e64]
                          refine zn_iconst h 0 rfl rfl ?_
                          refine zk_V h [_, _, _, _] rfl (by first | rfl | assumption) rfl rfl (Nat.le_of_ble_eq_true rfl) (s_k_keep0 hcc hb ?_)
                          exact end9 _ _ (hkeep _) (h5 c12 c3 c4 u) _ _
                        · exact absurd rfl hc
                  · refine zi_aload_n h rfl rfl ?_
                    refine zi_iload_n h rfl rfl ?_
                    refine zk_V h [_] rfl (by first | rfl | assumption) rfl rfl (Nat.le_of_ble_eq_true rfl) (s_k_down hcc (by rw [woff _ _ (by omega)]; exact hl) hl2 w39 (by omega) ?_)
                    refine zi_iload_n h rfl rfl ?_
                    refine zi_iret h rfl ?_
                    exact h2 c12 (by omega)
                · omega
              | succ n ih =>
                intro i hi
                have ih := ih (i + 1) (by omega)
                refine zi_iload h rfl rfl ?_
                refine zn_iconst h 5 rfl rfl ?_
                first | refine zn_icmpge h rfl (by omega) (by omega) (fun hc => ?_) (fun hc => ?_) | refine zc_icmpge h rfl (fun hc => ?_) (fun hc => ?_)
                · omega
                · refine zi_aload_n h rfl rfl ?_
                  refine zg_ref h rfl (by first | rfl | assumption) (by decide) rfl rfl ?_
                  refine zi_iload h rfl rfl ?_
                  refine za_z h rfl (by first | rfl | assumption) rfl (by omega) (by decide) ?_
                  rw [e62]
                  refine zb_ifeq h rfl (fun hc => ?_) (fun hc => ?_)
                  · rw [show p_other (g 62) (g 63) (g 67 c) (i + 1) = p_other (g 62) (g 63) (g 67 c) i by simp [p_other, hc]] at ih
                    first | refine zn_iinc h 1 rfl rfl rfl ?_ | refine zi_iinc h rfl rfl ?_
                    refine zi_goto h rfl ?_
                    exact ih
                  · have c3 := hc
                    refine zi_aload_n h rfl rfl ?_
                    refine zg_ref h rfl (by first | rfl | assumption) (by decide) rfl rfl ?_
                    refine zi_iload h rfl rfl ?_
                    refine za_i h rfl (by first | rfl | assumption) rfl (by omega) (by decide) ?_
                    refine zi_aload_n h rfl rfl ?_
                    refine zg_ref h rfl (by first | rfl | assumption) (by decide) rfl rfl ?_
                    refine zi_iload_n h rfl rfl ?_
                    refine za_i h rfl (by first | rfl | assumption) rfl (by omega) (by decide) ?_
                    rw [e63, woff 67 _ (by omega)]
                    refine zc_icmpeq h rfl (fun hc => ?_) (fun hc => ?_)
                    · rw [show p_other (g 62) (g 63) (g 67 c) (i + 1) = p_other (g 62) (g 63) (g 67 c) i by simp [p_other, hc]] at ih
                      first | refine zn_iinc h 1 rfl rfl rfl ?_ | refine zi_iinc h rfl rfl ?_
                      refine zi_goto h rfl ?_
                      exact ih
                    · rw [show p_other (g 62) (g 63) (g 67 c) (i + 1) = p_other (g 62) (g 63) (g 67 c) i + 1 by simp [p_other, hc, c3]] at ih
                      first | refine zn_iinc h 1 rfl rfl rfl ?_ | refine zi_iinc h rfl rfl ?_
                      first | refine zn_iinc h 1 rfl rfl rfl ?_ | refine zi_iinc h rfl rfl ?_
                      refine zi_goto h rfl ?_
                      exact ih
            refine zn_iconst h 0 rfl rfl ?_
            refine zi_istore h rfl (Nat.le_of_ble_eq_true rfl) ?_
            refine zn_iconst h 0 rfl rfl ?_
            refine zi_istore h rfl (Nat.le_of_ble_eq_true rfl) ?_
            exact loop 5 0 (by omega)
          · refine zi_iload_n h rfl rfl ?_
            refine zi_iret h rfl ?_
            exact h1 (fun u => u.2 hc)
      · omega
/-- the first message is taken -/
def k_pop (f : tw_S) (c m e : Nat) : tw_S := fun q j => if q = 98 ∧ j = c then nI (m - 1) else if q = 97 ∧ 200 * c ≤ j ∧ j < 200 * c + e then f 97 (j + 5) else f q j
def k_newer (f : tw_S) (c b : Nat) (v w : Int32) : tw_S := if f 74 (32 * c + b) = 0 ∨ ¬ w ≤ f 76 (32 * c + b) then tw_up (tw_up (tw_up f 74 (32 * c + b) 1) 75 (32 * c + b) v) 76 (32 * c + b) w else f
def k_dropv (f : tw_S) (c b : Nat) (w : Int32) : tw_S := if ¬ f 74 (32 * c + b) = 0 ∧ f 76 (32 * c + b) = w then tw_up f 74 (32 * c + b) 0 else f
def k_got (f : tw_S) (t : Nat) : tw_S := if f 99 t = 0 then tw_up f 99 t 1 else f
set_option maxRecDepth 20000 in
theorem s_m_arrive_x {fl : Bool} {d : Nat} {f : tw_S} {P : tw_S → Option tw_A → Prop} {x : Int32} {g : tw_S} (hg : tw_up f 61 0 0 = g) (hx : (x < 0 ∨ nI 2 ≤ x) ∨ (∃ i, i < 2 ∧ x = nI i) ∧ ¬ g 61 38 = 0) (hP : P g (some (tw_I (-1)))) : tS fl (d + 2) 139 [tw_R 61, tw_I x] f P := by
  refine tw_Sp_of rfl rfl (Nat.le_of_ble_eq_true rfl) (fun X h => ?_)
  refine zi_aload_n h rfl rfl ?_
  refine zn_iconst h 0 rfl rfl ?_
  refine zp_int h rfl (by first | rfl | assumption) (by decide) rfl ?_
  refine tw_mem (g := g) (fun q j => by rw [← hg]; rfl) ?_
  rcases hx with hx | ⟨⟨i, hi, rfl⟩, hx⟩
  · refine zi_iload_n h rfl rfl ?_
    refine zi_istore_n h rfl (Nat.le_of_ble_eq_true rfl) ?_
    refine zi_iload_n h rfl rfl ?_
    refine zn_iconst h 0 rfl rfl ?_
    refine zn_iconst h 1 rfl rfl ?_
    refine zk_S h [_, _, _] rfl rfl rfl (Nat.le_of_ble_eq_true rfl) (s_k_in0 (by omega) hx ?_)
    first | refine zb_ifeq h rfl (fun hc => ?_) (fun hc => ?_) | refine zc_ifeq h rfl (fun hc => ?_) (fun hc => ?_)
    · refine zi_iconst h rfl ?_
      refine zi_iret h rfl ?_
      exact hP
    · exact absurd rfl hc
  · refine zi_iload_n h rfl rfl ?_
    refine zi_istore_n h rfl (Nat.le_of_ble_eq_true rfl) ?_
    refine zi_iload_n h rfl rfl ?_
    refine zn_iconst h 0 rfl rfl ?_
    refine zn_iconst h 1 rfl rfl ?_
    refine zk_S h [_, _, _] rfl rfl rfl (Nat.le_of_ble_eq_true rfl) (s_k_in1 (by omega) (by omega) ?_)
    first | refine zb_ifeq h rfl (fun hc => ?_) (fun hc => ?_) | refine zc_ifeq h rfl (fun hc => ?_) (fun hc => ?_)
    · exact absurd hc (by decide)
    · refine zi_aload_n h rfl rfl ?_
      refine zg_boo h rfl (by first | rfl | assumption) (by decide) rfl ?_
      first | refine zb_ifne h rfl (fun hc => ?_) (fun hc => ?_) | refine zc_ifne h rfl (fun hc => ?_) (fun hc => ?_)
      · refine zi_iconst h rfl ?_
        refine zi_iret h rfl ?_
        exact hP
      · exact absurd hc hx
set_option maxRecDepth 20000 in
theorem s_m_arrive_c {fl : Bool} {d : Nat} {f : tw_S} {P : tw_S → Option tw_A → Prop} {c m : Nat} {g z : tw_S} (hg : tw_up f 61 0 0 = g) (hz : k_pop g c m (5 * (m - 1)) = z) (hc : c < 2) (h38 : g 61 38 = 0) (hm : g 98 c = nI m) (hm2 : m ≤ 40) (hb : k_box z c) (h1 : m = 0 → P g (some (tw_I (-1)))) (h2 : 0 < m → ¬ (¬ g 66 c = 0 ∧ ¬ g 68 c = 0) → P z (some (tw_I (g 97 (200 * c)))))
    (h3 : 0 < m → (¬ g 66 c = 0 ∧ ¬ g 68 c = 0) → ∃ k, g 97 (200 * c) = nI k ∧ k < 6 ∧ (k = 0 → ∃ b, g 97 (200 * c + 1) = nI b ∧ b < 32 ∧ P (k_send (k_newer z c b (g 97 (200 * c + 2)) (g 97 (200 * c + 3))) c 1 (g 97 (200 * c + 4)) 0 0 0) (some (tw_I (g 97 (200 * c))))) ∧ (k = 1 → ∃ t, g 97 (200 * c + 1) = nI t ∧ t < 200 ∧ P (k_got z t) (some (tw_I (g 97 (200 * c))))) ∧ (k = 2 → ∃ b, g 97 (200 * c + 1) = nI b ∧ b < 32 ∧ P (k_dropv z c b (g 97 (200 * c + 2))) (some (tw_I (g 97 (200 * c))))) ∧ (k = 3 → ∃ b, g 97 (200 * c + 1) = nI b ∧ b < 8 ∧ P (tw_up z 78 (8 * c + b) 1) (some (tw_I (g 97 (200 * c))))) ∧ (k = 4 → ∃ b, g 97 (200 * c + 1) = nI b ∧ b < 8 ∧ P (tw_up z 78 (8 * c + b) 0) (some (tw_I (g 97 (200 * c))))) ∧ (k = 5 → P (tw_up z 95 c 0) (some (tw_I (g 97 (200 * c)))))) : tS fl (d + 2) 139 [tw_R 61, tw_I (nI c)] f P := by
  have hcc := hc
  have z66 : z 66 c = g 66 c := by rw [← hz, k_pop, if_neg (by omega), if_neg (by omega)]
  have z68 : z 68 c = g 68 c := by rw [← hz, k_pop, if_neg (by omega), if_neg (by omega)]
  refine tw_Sp_of rfl rfl (Nat.le_of_ble_eq_true rfl) (fun X h => ?_)
  refine zi_aload_n h rfl rfl ?_
  refine zn_iconst h 0 rfl rfl ?_
  refine zp_int h rfl (by first | rfl | assumption) (by decide) rfl ?_
  refine tw_mem (g := g) (fun q j => by rw [← hg]; rfl) ?_
  refine zi_iload_n h rfl rfl ?_
  refine zi_istore_n h rfl (Nat.le_of_ble_eq_true rfl) ?_
  refine zi_iload_n h rfl rfl ?_
  refine zn_iconst h 0 rfl rfl ?_
  refine zn_iconst h 1 rfl rfl ?_
  refine zk_S h [_, _, _] rfl rfl rfl (Nat.le_of_ble_eq_true rfl) (s_k_in1 (by omega) (by omega) ?_)
  first | refine zb_ifeq h rfl (fun hc => ?_) (fun hc => ?_) | refine zc_ifeq h rfl (fun hc => ?_) (fun hc => ?_)
  · exact absurd hc (by decide)
  · refine zi_aload_n h rfl rfl ?_
    refine zg_boo h rfl (by first | rfl | assumption) (by decide) rfl ?_
    first | refine zb_ifne h rfl (fun hc => ?_) (fun hc => ?_) | refine zc_ifne h rfl (fun hc => ?_) (fun hc => ?_)
    · exact absurd h38 hc
    · refine zi_aload_n h rfl rfl ?_
      refine zg_ref h rfl (by first | rfl | assumption) (by decide) rfl rfl ?_
      refine zi_iload_n h rfl rfl ?_
      refine za_n h m rfl (by first | rfl | assumption) rfl (by omega) (by decide) hm ?_
      refine zc_ifne h rfl (fun hc => ?_) (fun hc => ?_)
      · have hm0 : 0 < m := by
          rcases Nat.eq_zero_or_pos m with u | u
          · subst u; exact absurd rfl hc
          · exact u
        have h2 := h2 hm0
        have h3 := h3 hm0
        generalize e0 : g 97 (200 * c) = so at h2 h3
        generalize e1 : g 97 (200 * c + 1) = a at h3
        generalize e2 : g 97 (200 * c + 2) = b at h3
        generalize e3 : g 97 (200 * c + 3) = v at h3
        generalize e4 : g 97 (200 * c + 4) = t at h3
        have main : X 91 [some (tw_R 61), some (tw_I (nI c)), some (tw_I (nI c)), some (tw_I (nI (200 * c))), some (tw_I so), some (tw_I a), some (tw_I b), some (tw_I v), some (tw_I t), some (tw_I (nI (5 * (m - 1))))] [] tx_L0 z := by
          refine zi_aload_n h rfl rfl ?_
          refine zg_ref h rfl (by first | rfl | assumption) (by decide) rfl rfl ?_
          refine zi_iload_n h rfl rfl ?_
          refine za_z h rfl (by first | rfl | assumption) rfl (by omega) (by decide) ?_
          rw [z66]
          refine zb_ifeq h rfl (fun hc => ?_) (fun hc => ?_)
          · refine zi_iload h rfl rfl ?_
            refine zi_iret h rfl ?_
            exact h2 (fun u => u.1 hc)
          · have c1 := hc
            refine zi_aload_n h rfl rfl ?_
            refine zg_ref h rfl (by first | rfl | assumption) (by decide) rfl rfl ?_
            refine zi_iload_n h rfl rfl ?_
            refine za_z h rfl (by first | rfl | assumption) rfl (by omega) (by decide) ?_
            rw [z68]
            refine zb_ifne h rfl (fun hc => ?_) (fun hc => ?_)
            · obtain ⟨k, rfl, hk, p0, p1, p2, p3, p4, p5⟩ := h3 ⟨c1, hc⟩
              have t213 : k ≠ 5 → ∀ y : tw_S, P y (some (tw_I (nI k))) → ∀ l9 : Option tw_A, X 213 [some (tw_R 61), some (tw_I (nI c)), some (tw_I (nI c)), some (tw_I (nI (200 * c))), some (tw_I (nI k)), some (tw_I a), some (tw_I b), some (tw_I v), some (tw_I t), l9] [] tx_L0 y := by
                intro h5 y hP l9
                refine zi_iload h rfl rfl ?_
                refine zn_iconst h 5 rfl rfl ?_
                first | refine zn_icmpne h rfl (by omega) (by omega) (fun hc => ?_) (fun hc => ?_) | refine zc_icmpne h rfl (fun hc => ?_) (fun hc => ?_)
                · refine zi_iload h rfl rfl ?_
                  refine zi_iret h rfl ?_
                  exact hP
                · omega
              have t201 : k ≠ 4 → k ≠ 5 → ∀ y : tw_S, P y (some (tw_I (nI k))) → ∀ l9 : Option tw_A, X 201 [some (tw_R 61), some (tw_I (nI c)), some (tw_I (nI c)), some (tw_I (nI (200 * c))), some (tw_I (nI k)), some (tw_I a), some (tw_I b), some (tw_I v), some (tw_I t), l9] [] tx_L0 y := by
                intro h4 h5 y hP l9
                refine zi_iload h rfl rfl ?_
                refine zn_iconst h 4 rfl rfl ?_
                first | refine zn_icmpne h rfl (by omega) (by omega) (fun hc => ?_) (fun hc => ?_) | refine zc_icmpne h rfl (fun hc => ?_) (fun hc => ?_)
                · exact t213 h5 y hP _
                · omega
              have t189 : k ≠ 3 → k ≠ 4 → k ≠ 5 → ∀ y : tw_S, P y (some (tw_I (nI k))) → ∀ l9 : Option tw_A, X 189 [some (tw_R 61), some (tw_I (nI c)), some (tw_I (nI c)), some (tw_I (nI (200 * c))), some (tw_I (nI k)), some (tw_I a), some (tw_I b), some (tw_I v), some (tw_I t), l9] [] tx_L0 y := by
                intro h3 h4 h5 y hP l9
                refine zi_iload h rfl rfl ?_
                refine zn_iconst h 3 rfl rfl ?_
                first | refine zn_icmpne h rfl (by omega) (by omega) (fun hc => ?_) (fun hc => ?_) | refine zc_icmpne h rfl (fun hc => ?_) (fun hc => ?_)
                · exact t201 h4 h5 y hP _
                · omega
              have t158 : k ≠ 2 → k ≠ 3 → k ≠ 4 → k ≠ 5 → ∀ y : tw_S, P y (some (tw_I (nI k))) → ∀ l9 : Option tw_A, X 158 [some (tw_R 61), some (tw_I (nI c)), some (tw_I (nI c)), some (tw_I (nI (200 * c))), some (tw_I (nI k)), some (tw_I a), some (tw_I b), some (tw_I v), some (tw_I t), l9] [] tx_L0 y := by
                intro h2 h3 h4 h5 y hP l9
                refine zi_iload h rfl rfl ?_
                refine zn_iconst h 2 rfl rfl ?_
                first | refine zn_icmpne h rfl (by omega) (by omega) (fun hc => ?_) (fun hc => ?_) | refine zc_icmpne h rfl (fun hc => ?_) (fun hc => ?_)
                · exact t189 h3 h4 h5 y hP _
                · omega
              have t145 : k ≠ 1 → k ≠ 2 → k ≠ 3 → k ≠ 4 → k ≠ 5 → ∀ y : tw_S, P y (some (tw_I (nI k))) → ∀ l9 : Option tw_A, X 145 [some (tw_R 61), some (tw_I (nI c)), some (tw_I (nI c)), some (tw_I (nI (200 * c))), some (tw_I (nI k)), some (tw_I a), some (tw_I b), some (tw_I v), some (tw_I t), l9] [] tx_L0 y := by
                intro h1 h2 h3 h4 h5 y hP l9
                refine zi_iload h rfl rfl ?_
                refine zn_iconst h 1 rfl rfl ?_
                first | refine zn_icmpne h rfl (by omega) (by omega) (fun hc => ?_) (fun hc => ?_) | refine zc_icmpne h rfl (fun hc => ?_) (fun hc => ?_)
                · exact t158 h2 h3 h4 h5 y hP _
                · omega
              refine zi_iload h rfl rfl ?_
              refine zc_ifne h rfl (fun hc => ?_) (fun hc => ?_)
              · have k0 : k ≠ 0 := fun u => hc (by rw [u]; rfl)
                refine zi_iload h rfl rfl ?_
                refine zn_iconst h 1 rfl rfl ?_
                first | refine zn_icmpne h rfl (by omega) (by omega) (fun hc => ?_) (fun hc => ?_) | refine zc_icmpne h rfl (fun hc => ?_) (fun hc => ?_)
                · refine zi_iload h rfl rfl ?_
                  refine zn_iconst h 2 rfl rfl ?_
                  first | refine zn_icmpne h rfl (by omega) (by omega) (fun hc => ?_) (fun hc => ?_) | refine zc_icmpne h rfl (fun hc => ?_) (fun hc => ?_)
                  · refine zi_iload h rfl rfl ?_
                    refine zn_iconst h 3 rfl rfl ?_
                    first | refine zn_icmpne h rfl (by omega) (by omega) (fun hc => ?_) (fun hc => ?_) | refine zc_icmpne h rfl (fun hc => ?_) (fun hc => ?_)
                    · refine zi_iload h rfl rfl ?_
                      refine zn_iconst h 4 rfl rfl ?_
                      first | refine zn_icmpne h rfl (by omega) (by omega) (fun hc => ?_) (fun hc => ?_) | refine zc_icmpne h rfl (fun hc => ?_) (fun hc => ?_)
                      · obtain rfl : k = 5 := by omega
                        refine zi_iload h rfl rfl ?_
                        refine zn_iconst h 5 rfl rfl ?_
                        first | refine zn_icmpne h rfl (by omega) (by omega) (fun hc => ?_) (fun hc => ?_) | refine zc_icmpne h rfl (fun hc => ?_) (fun hc => ?_)
                        · omega
                        · refine zi_aload_n h rfl rfl ?_
                          refine zg_ref h rfl (by first | rfl | assumption) (by decide) rfl rfl ?_
                          refine zi_iload_n h rfl rfl ?_
                          refine zn_iconst h 0 rfl rfl ?_
                          refine zs_i h rfl (by first | rfl | assumption) rfl (by omega) (by decide) ?_
                          refine zi_iload h rfl rfl ?_
                          refine zi_iret h rfl ?_
                          exact p5 rfl
                      · subst hc
                        obtain ⟨b2, rfl, hb2, hP⟩ := p4 rfl
                        refine zi_aload_n h rfl rfl ?_
                        refine zg_ref h rfl (by first | rfl | assumption) (by decide) rfl rfl ?_
                        refine zn_bipush h 8 rfl rfl ?_
                        refine zi_iload_n h rfl rfl ?_
                        first | refine zn_imul h rfl ?_ | refine zi_imul h rfl ?_
                        refine zi_iload h rfl rfl ?_
                        first | refine zn_iadd h rfl ?_ | refine zi_iadd h rfl ?_
                        refine zn_iconst h 0 rfl rfl ?_
                        refine zs_z h rfl (by first | rfl | assumption) rfl (by omega) (by decide) (by first | exact Or.inl rfl | exact Or.inr rfl | exact tw_nz_01 _ | assumption) ?_
                        exact t213 (by omega) _ hP _
                    · subst hc
                      obtain ⟨b2, rfl, hb2, hP⟩ := p3 rfl
                      refine zi_aload_n h rfl rfl ?_
                      refine zg_ref h rfl (by first | rfl | assumption) (by decide) rfl rfl ?_
                      refine zn_bipush h 8 rfl rfl ?_
                      refine zi_iload_n h rfl rfl ?_
                      first | refine zn_imul h rfl ?_ | refine zi_imul h rfl ?_
                      refine zi_iload h rfl rfl ?_
                      first | refine zn_iadd h rfl ?_ | refine zi_iadd h rfl ?_
                      refine zn_iconst h 1 rfl rfl ?_
                      refine zs_z h rfl (by first | rfl | assumption) rfl (by omega) (by decide) (by first | exact Or.inl rfl | exact Or.inr rfl | exact tw_nz_01 _ | assumption) ?_
                      exact t201 (by omega) (by omega) _ hP _
                  · subst hc
                    obtain ⟨b2, rfl, hb2, hP⟩ := p2 rfl
                    unfold k_dropv at hP
                    refine zi_aload_n h rfl rfl ?_
                    refine zg_ref h rfl (by first | rfl | assumption) (by decide) rfl rfl ?_
                    refine zn_bipush h 32 rfl rfl ?_
                    refine zi_iload_n h rfl rfl ?_
                    first | refine zn_imul h rfl ?_ | refine zi_imul h rfl ?_
                    refine zi_iload h rfl rfl ?_
                    first | refine zn_iadd h rfl ?_ | refine zi_iadd h rfl ?_
                    refine za_z h rfl (by first | rfl | assumption) rfl (by omega) (by decide) ?_
                    first | refine zb_ifeq h rfl (fun hc => ?_) (fun hc => ?_) | refine zc_ifeq h rfl (fun hc => ?_) (fun hc => ?_)
                    · rw [if_neg (fun u => u.1 hc)] at hP
                      exact t189 (by omega) (by omega) (by omega) _ hP _
                    · have c3 := hc
                      refine zi_aload_n h rfl rfl ?_
                      refine zg_ref h rfl (by first | rfl | assumption) (by decide) rfl rfl ?_
                      refine zn_bipush h 32 rfl rfl ?_
                      refine zi_iload_n h rfl rfl ?_
                      first | refine zn_imul h rfl ?_ | refine zi_imul h rfl ?_
                      refine zi_iload h rfl rfl ?_
                      first | refine zn_iadd h rfl ?_ | refine zi_iadd h rfl ?_
                      refine za_i h rfl (by first | rfl | assumption) rfl (by omega) (by decide) ?_
                      refine zi_iload h rfl rfl ?_
                      refine zc_icmpne h rfl (fun hc => ?_) (fun hc => ?_)
                      · rw [if_neg (fun u => hc u.2)] at hP
                        exact t189 (by omega) (by omega) (by omega) _ hP _
                      · rw [if_pos ⟨c3, hc⟩] at hP
                        refine zi_aload_n h rfl rfl ?_
                        refine zg_ref h rfl (by first | rfl | assumption) (by decide) rfl rfl ?_
                        refine zn_bipush h 32 rfl rfl ?_
                        refine zi_iload_n h rfl rfl ?_
                        first | refine zn_imul h rfl ?_ | refine zi_imul h rfl ?_
                        refine zi_iload h rfl rfl ?_
                        first | refine zn_iadd h rfl ?_ | refine zi_iadd h rfl ?_
                        refine zn_iconst h 0 rfl rfl ?_
                        refine zs_z h rfl (by first | rfl | assumption) rfl (by omega) (by decide) (by first | exact Or.inl rfl | exact Or.inr rfl | exact tw_nz_01 _ | assumption) ?_
                        exact t189 (by omega) (by omega) (by omega) _ hP _
                · subst hc
                  obtain ⟨t2, rfl, ht2, hP⟩ := p1 rfl
                  unfold k_got at hP
                  refine zi_aload_n h rfl rfl ?_
                  refine zg_ref h rfl (by first | rfl | assumption) (by decide) rfl rfl ?_
                  refine zi_iload h rfl rfl ?_
                  refine za_i h rfl (by first | rfl | assumption) rfl (by omega) (by decide) ?_
                  refine zc_ifne h rfl (fun hc => ?_) (fun hc => ?_)
                  · rw [if_neg hc] at hP
                    exact t158 (by omega) (by omega) (by omega) (by omega) _ hP _
                  · rw [if_pos hc] at hP
                    refine zi_aload_n h rfl rfl ?_
                    refine zg_ref h rfl (by first | rfl | assumption) (by decide) rfl rfl ?_
                    refine zi_iload h rfl rfl ?_
                    refine zn_iconst h 1 rfl rfl ?_
                    refine zs_i h rfl (by first | rfl | assumption) rfl (by omega) (by decide) ?_
                    exact t158 (by omega) (by omega) (by omega) (by omega) _ hP _
              · obtain rfl : k = 0 := (nI_zero (by omega)).mp hc
                obtain ⟨b2, rfl, hb2, hP⟩ := p0 rfl
                obtain ⟨mm, hm3, hm4⟩ := hb
                have snd : ∀ y : tw_S, y 98 (1 - c) = nI mm → P (k_send y c 1 t 0 0 0) (some (tw_I (nI 0))) → ∀ l9 : Option tw_A, X 137 [some (tw_R 61), some (tw_I (nI c)), some (tw_I (nI c)), some (tw_I (nI (200 * c))), some (tw_I (nI 0)), some (tw_I (nI b2)), some (tw_I b), some (tw_I v), some (tw_I t), l9] [] tx_L0 y := by
                  intro y hy hP l9
                  refine zi_aload_n h rfl rfl ?_
                  refine zi_iload_n h rfl rfl ?_
                  refine zn_iconst h 1 rfl rfl ?_
                  refine zi_iload h rfl rfl ?_
                  refine zn_iconst h 0 rfl rfl ?_
                  refine zn_iconst h 0 rfl rfl ?_
                  refine zn_iconst h 0 rfl rfl ?_
                  refine zk_V h [_, _, _, _, _, _] rfl (by first | rfl | assumption) rfl rfl (Nat.le_of_ble_eq_true rfl) (s_k_send hcc hy hm4 ?_)
                  exact t145 (by omega) (by omega) (by omega) (by omega) (by omega) _ hP _
                unfold k_newer at hP
                have put : (z 74 (32 * c + b2) = 0 ∨ ¬ v ≤ z 76 (32 * c + b2)) → ∀ l9 : Option tw_A, l9 = some (tw_I (nI (32 * c + b2))) → X 122 [some (tw_R 61), some (tw_I (nI c)), some (tw_I (nI c)), some (tw_I (nI (200 * c))), some (tw_I (nI 0)), some (tw_I (nI b2)), some (tw_I b), some (tw_I v), some (tw_I t), l9] [] tx_L0 z := by
                  intro u l9 hl9
                  subst hl9
                  rw [if_pos u] at hP
                  refine zi_aload_n h rfl rfl ?_
                  refine zg_ref h rfl (by first | rfl | assumption) (by decide) rfl rfl ?_
                  refine zi_iload h rfl rfl ?_
                  refine zn_iconst h 1 rfl rfl ?_
                  refine zs_z h rfl (by first | rfl | assumption) rfl (by omega) (by decide) (by first | exact Or.inl rfl | exact Or.inr rfl | exact tw_nz_01 _ | assumption) ?_
                  refine zi_aload_n h rfl rfl ?_
                  refine zg_ref h rfl (by first | rfl | assumption) (by decide) rfl rfl ?_
                  refine zi_iload h rfl rfl ?_
                  refine zi_iload h rfl rfl ?_
                  refine zs_i h rfl (by first | rfl | assumption) rfl (by omega) (by decide) ?_
                  show X 132 _ _ _ _
                  refine zi_aload_n h rfl rfl ?_
                  refine zg_ref h rfl (by first | rfl | assumption) (by decide) rfl rfl ?_
                  refine zi_iload h rfl rfl ?_
                  refine zi_iload h rfl rfl ?_
                  refine zs_i h rfl (by first | rfl | assumption) rfl (by omega) (by decide) ?_
                  exact snd _ (by rw [tw_off (by omega), tw_off (by omega), tw_off (by omega)]; exact hm3) hP _
                refine zn_bipush h 32 rfl rfl ?_
                refine zi_iload_n h rfl rfl ?_
                first | refine zn_imul h rfl ?_ | refine zi_imul h rfl ?_
                refine zi_iload h rfl rfl ?_
                first | refine zn_iadd h rfl ?_ | refine zi_iadd h rfl ?_
                refine zi_istore h rfl (Nat.le_of_ble_eq_true rfl) ?_
                refine zi_aload_n h rfl rfl ?_
                refine zg_ref h rfl (by first | rfl | assumption) (by decide) rfl rfl ?_
                refine zi_iload h rfl rfl ?_
                refine za_z h rfl (by first | rfl | assumption) rfl (by omega) (by decide) ?_
                show X 115 _ _ _ _
                first | refine zb_ifeq h rfl (fun hc => ?_) (fun hc => ?_) | refine zc_ifeq h rfl (fun hc => ?_) (fun hc => ?_)
                · exact put (Or.inl hc) _ rfl
                · have c3 := hc
                  refine zi_aload_n h rfl rfl ?_
                  refine zg_ref h rfl (by first | rfl | assumption) (by decide) rfl rfl ?_
                  refine zi_iload h rfl rfl ?_
                  refine za_i h rfl (by first | rfl | assumption) rfl (by omega) (by decide) ?_
                  refine zi_iload h rfl rfl ?_
                  refine zc_icmpge h rfl (fun hc => ?_) (fun hc => ?_)
                  · rw [if_neg (fun u => u.elim c3 (fun w => w hc))] at hP
                    exact snd _ hm3 hP _
                  · exact put (Or.inr hc) _ rfl
            · refine zi_iload h rfl rfl ?_
              refine zi_iret h rfl ?_
              exact h2 (fun u => u.2 hc)
        have loop : ∀ n i : Nat, i + n = 5 * (m - 1) → X 67 [some (tw_R 61), some (tw_I (nI c)), some (tw_I (nI c)), some (tw_I (nI (200 * c))), some (tw_I so), some (tw_I a), some (tw_I b), some (tw_I v), some (tw_I t), some (tw_I (nI i))] [] tx_L0 (k_pop g c m i) := by
          intro n
          induction n with
          | zero =>
            intro i hi
            obtain rfl : i = 5 * (m - 1) := by omega
            refine zi_iload h rfl rfl ?_
            refine zn_iconst h 5 rfl rfl ?_
            refine zi_aload_n h rfl rfl ?_
            refine zg_ref h rfl (by first | rfl | assumption) (by decide) rfl rfl ?_
            refine zi_iload_n h rfl rfl ?_
            refine za_n h (m-1) rfl (by first | rfl | assumption) rfl (by omega) (by decide) (by simp [k_pop]) ?_
            first | refine zn_imul h rfl ?_ | refine zi_imul h rfl ?_
            first | refine zn_icmpge h rfl (by omega) (by omega) (fun hc => ?_) (fun hc => ?_) | refine zc_icmpge h rfl (fun hc => ?_) (fun hc => ?_)
            · rw [hz]
              exact main
            · omega
          | succ n ih =>
            intro i hi
            have ih := ih (i + 1) (by omega)
            have r1 : k_pop g c m i 97 (200 * c + i + 5) = g 97 (200 * c + i + 5) := by rw [k_pop, if_neg (by omega), if_neg (by omega)]
            refine zi_iload h rfl rfl ?_
            refine zn_iconst h 5 rfl rfl ?_
            refine zi_aload_n h rfl rfl ?_
            refine zg_ref h rfl (by first | rfl | assumption) (by decide) rfl rfl ?_
            refine zi_iload_n h rfl rfl ?_
            refine za_n h (m-1) rfl (by first | rfl | assumption) rfl (by omega) (by decide) (by simp [k_pop]) ?_
            first | refine zn_imul h rfl ?_ | refine zi_imul h rfl ?_
            first | refine zn_icmpge h rfl (by omega) (by omega) (fun hc => ?_) (fun hc => ?_) | refine zc_icmpge h rfl (fun hc => ?_) (fun hc => ?_)
            · omega
            · refine zi_aload_n h rfl rfl ?_
              refine zg_ref h rfl (by first | rfl | assumption) (by decide) rfl rfl ?_
              refine zi_iload_n h rfl rfl ?_
              refine zi_iload h rfl rfl ?_
              first | refine zn_iadd h rfl ?_ | refine zi_iadd h rfl ?_
              refine zi_aload_n h rfl rfl ?_
              refine zg_ref h rfl (by first | rfl | assumption) (by decide) rfl rfl ?_
              refine zi_iload_n h rfl rfl ?_
              refine zi_iload h rfl rfl ?_
              first | refine zn_iadd h rfl ?_ | refine zi_iadd h rfl ?_
              show X 85 _ _ _ _
              refine zn_iconst h 5 rfl rfl ?_
              first | refine zn_iadd h rfl ?_ | refine zi_iadd h rfl ?_
              refine za_i h rfl (by first | rfl | assumption) rfl (by omega) (by decide) ?_
              rw [r1]
              refine zs_i h rfl (by first | rfl | assumption) rfl (by omega) (by decide) ?_
              first | refine zn_iinc h 1 rfl rfl rfl ?_ | refine zi_iinc h rfl rfl ?_
              refine zi_goto h rfl ?_
              refine tw_mem (fun q j => ?_) ih
              unfold tw_up k_pop
              by_cases hj : j = 200 * c + i
              · subst hj
                by_cases hq : q = 97
                · subst hq
                  simp
                · simp [hq]
              · have e1 : (j < 200 * c + (i + 1)) = (j < 200 * c + i) := by apply propext; omega
                simp [e1, hj]
        refine zn_sipush h 200 rfl rfl ?_
        refine zi_iload_n h rfl rfl ?_
        first | refine zn_imul h rfl ?_ | refine zi_imul h rfl ?_
        refine zi_istore_n h rfl (Nat.le_of_ble_eq_true rfl) ?_
        refine zi_aload_n h rfl rfl ?_
        refine zg_ref h rfl (by first | rfl | assumption) (by decide) rfl rfl ?_
        refine zi_iload_n h rfl rfl ?_
        refine za_i h rfl (by first | rfl | assumption) rfl (by omega) (by decide) ?_
        rw [e0]
        refine zi_istore h rfl (Nat.le_of_ble_eq_true rfl) ?_
        refine zi_aload_n h rfl rfl ?_
        refine zg_ref h rfl (by first | rfl | assumption) (by decide) rfl rfl ?_
        refine zi_iload_n h rfl rfl ?_
        refine zn_iconst h 1 rfl rfl ?_
        first | refine zn_iadd h rfl ?_ | refine zi_iadd h rfl ?_
        refine za_i h rfl (by first | rfl | assumption) rfl (by omega) (by decide) ?_
        rw [e1]
        refine zi_istore h rfl (Nat.le_of_ble_eq_true rfl) ?_
        refine zi_aload_n h rfl rfl ?_
        refine zg_ref h rfl (by first | rfl | assumption) (by decide) rfl rfl ?_
        refine zi_iload_n h rfl rfl ?_
        refine zn_iconst h 2 rfl rfl ?_
        first | refine zn_iadd h rfl ?_ | refine zi_iadd h rfl ?_
        refine za_i h rfl (by first | rfl | assumption) rfl (by omega) (by decide) ?_
        rw [e2]
        refine zi_istore h rfl (Nat.le_of_ble_eq_true rfl) ?_
        refine zi_aload_n h rfl rfl ?_
        refine zg_ref h rfl (by first | rfl | assumption) (by decide) rfl rfl ?_
        refine zi_iload_n h rfl rfl ?_
        refine zn_iconst h 3 rfl rfl ?_
        first | refine zn_iadd h rfl ?_ | refine zi_iadd h rfl ?_
        refine za_i h rfl (by first | rfl | assumption) rfl (by omega) (by decide) ?_
        rw [e3]
        refine zi_istore h rfl (Nat.le_of_ble_eq_true rfl) ?_
        refine zi_aload_n h rfl rfl ?_
        refine zg_ref h rfl (by first | rfl | assumption) (by decide) rfl rfl ?_
        refine zi_iload_n h rfl rfl ?_
        refine zn_iconst h 4 rfl rfl ?_
        first | refine zn_iadd h rfl ?_ | refine zi_iadd h rfl ?_
        refine za_i h rfl (by first | rfl | assumption) rfl (by omega) (by decide) ?_
        rw [e4]
        refine zi_istore h rfl (Nat.le_of_ble_eq_true rfl) ?_
        refine zi_aload_n h rfl rfl ?_
        refine zg_ref h rfl (by first | rfl | assumption) (by decide) rfl rfl ?_
        refine zi_iload_n h rfl rfl ?_
        refine zi_dup2 h rfl rfl rfl ?_
        refine za_n h m rfl (by first | rfl | assumption) rfl (by omega) (by decide) hm ?_
        refine zn_iconst h 1 rfl rfl ?_
        first | refine zn_isub h rfl (by omega) ?_ | refine zi_isub h rfl ?_
        refine zs_i h rfl (by first | rfl | assumption) rfl (by omega) (by decide) ?_
        refine zn_iconst h 0 rfl rfl ?_
        refine zi_istore h rfl (Nat.le_of_ble_eq_true rfl) ?_
        refine tw_mem (fun q j => ?_) (loop (5 * (m - 1)) 0 (by omega))
        rw [k_pop, tw_up]
        split
        · rfl
        · rw [if_neg (by omega)]
      · refine zi_iconst h rfl ?_
        refine zi_iret h rfl ?_
        exact h1 ((nI_zero (by omega)).mp hc)
