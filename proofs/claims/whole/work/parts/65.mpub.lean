/-! The reference: its public methods (1). -/
set_option maxRecDepth 20000 in
theorem s_m_cut {fl : Bool} {d : Nat} {f : tw_S} {P : tw_S → Option tw_A → Prop} {x : Int32} {g : tw_S} (hg : tw_up f 61 0 0 = g) (hx : x = 0 ∨ x = 1) (hP : P (tw_up g 61 38 x) none) : tS fl (d + 1) 140 [tw_R 61, tw_I x] f P := by
  subst hg
  refine tw_Sp_of rfl rfl (Nat.le_of_ble_eq_true rfl) (fun X h => ?_)
  refine zi_aload_n h rfl rfl ?_
  refine zn_iconst h 0 rfl rfl ?_
  refine zp_int h rfl (by first | rfl | assumption) (by decide) rfl ?_
  refine zi_aload_n h rfl rfl ?_
  refine zi_iload_n h rfl rfl ?_
  refine zp_boo h rfl (by first | rfl | assumption) (by decide) rfl (by first | exact Or.inl rfl | exact Or.inr rfl | exact tw_nz_01 _ | assumption) ?_
  refine zi_vret h rfl ?_
  exact hP
set_option maxRecDepth 20000 in
theorem s_m_lates {fl : Bool} {d : Nat} {f : tw_S} {P : tw_S → Option tw_A → Prop} {g : tw_S} (hg : tw_up f 61 0 0 = g) (hP : P g (some (tw_I (g 61 45)))) : tS fl (d + 1) 154 [tw_R 61] f P := by
  subst hg
  refine tw_Sp_of rfl rfl (Nat.le_of_ble_eq_true rfl) (fun X h => ?_)
  refine zi_aload_n h rfl rfl ?_
  refine zn_iconst h 0 rfl rfl ?_
  refine zp_int h rfl (by first | rfl | assumption) (by decide) rfl ?_
  refine zi_aload_n h rfl rfl ?_
  refine zg_int h rfl (by first | rfl | assumption) (by decide) rfl ?_
  refine zi_iret h rfl ?_
  exact hP
set_option maxRecDepth 20000 in
theorem s_m_crash_x {fl : Bool} {d : Nat} {f : tw_S} {P : tw_S → Option tw_A → Prop} {x : Int32} {g : tw_S} (hg : tw_up f 61 0 0 = g) (hx : x < 0 ∨ nI 2 ≤ x) (hP : P g (some (tw_I 0))) : tS fl (d + 2) 141 [tw_R 61, tw_I x] f P := by
  subst hg
  refine tw_Sp_of rfl rfl (Nat.le_of_ble_eq_true rfl) (fun X h => ?_)
  refine zi_aload_n h rfl rfl ?_
  refine zn_iconst h 0 rfl rfl ?_
  refine zp_int h rfl (by first | rfl | assumption) (by decide) rfl ?_
  refine zi_iload_n h rfl rfl ?_
  refine zn_iconst h 0 rfl rfl ?_
  refine zn_iconst h 1 rfl rfl ?_
  refine zk_S h [_, _, _] rfl rfl rfl (Nat.le_of_ble_eq_true rfl) (s_k_in0 (by omega) hx ?_)
  first | refine zb_ifeq h rfl (fun hc => ?_) (fun hc => ?_) | refine zc_ifeq h rfl (fun hc => ?_) (fun hc => ?_)
  · refine zn_iconst h 0 rfl rfl ?_
    refine zi_zret h rfl (by first | exact Or.inl rfl | exact Or.inr rfl | exact tw_nz_01 _ | assumption) ?_
    exact hP
  · exact absurd rfl hc
set_option maxRecDepth 20000 in
theorem s_m_crash_c {fl : Bool} {d : Nat} {f : tw_S} {P : tw_S → Option tw_A → Prop} {c lm tm : Nat} {g : tw_S} (hg : tw_up f 61 0 0 = g) (hc : c < 2) (hl : g 61 45 = nI lm) (hl2 : lm ≤ 20) (ht : g 61 39 = nI tm) (ht2 : tm ≤ 200) (h1 : g 66 c = 0 → P g (some (tw_I 0))) (h2 : ¬ g 66 c = 0 → P (k_down g c) (some (tw_I 1))) : tS fl (d + 2) 141 [tw_R 61, tw_I (nI c)] f P := by
  have hcc := hc
  refine tw_Sp_of rfl rfl (Nat.le_of_ble_eq_true rfl) (fun X h => ?_)
  refine zi_aload_n h rfl rfl ?_
  refine zn_iconst h 0 rfl rfl ?_
  refine zp_int h rfl (by first | rfl | assumption) (by decide) rfl ?_
  refine tw_mem (g := g) (fun q j => by rw [← hg]; rfl) ?_
  refine zi_iload_n h rfl rfl ?_
  refine zn_iconst h 0 rfl rfl ?_
  refine zn_iconst h 1 rfl rfl ?_
  refine zk_S h [_, _, _] rfl rfl rfl (Nat.le_of_ble_eq_true rfl) (s_k_in1 (by omega) (by omega) ?_)
  first | refine zb_ifeq h rfl (fun hc => ?_) (fun hc => ?_) | refine zc_ifeq h rfl (fun hc => ?_) (fun hc => ?_)
  · exact absurd hc (by decide)
  · refine zi_aload_n h rfl rfl ?_
    refine zg_ref h rfl (by first | rfl | assumption) (by decide) rfl rfl ?_
    refine zi_iload_n h rfl rfl ?_
    refine za_z h rfl (by first | rfl | assumption) rfl (by omega) (by decide) ?_
    first | refine zb_ifne h rfl (fun hc => ?_) (fun hc => ?_) | refine zc_ifne h rfl (fun hc => ?_) (fun hc => ?_)
    · refine zi_aload_n h rfl rfl ?_
      refine zi_iload_n h rfl rfl ?_
      refine zk_V h [_] rfl (by first | rfl | assumption) rfl rfl (Nat.le_of_ble_eq_true rfl) (s_k_down hcc hl hl2 ht ht2 ?_)
      refine zn_iconst h 1 rfl rfl ?_
      refine zi_zret h rfl (by first | exact Or.inl rfl | exact Or.inr rfl | exact tw_nz_01 _ | assumption) ?_
      exact h2 hc
    · refine zn_iconst h 0 rfl rfl ?_
      refine zi_zret h rfl (by first | exact Or.inl rfl | exact Or.inr rfl | exact tw_nz_01 _ | assumption) ?_
      exact h1 hc
set_option maxRecDepth 20000 in
theorem s_m_restart_x {fl : Bool} {d : Nat} {f : tw_S} {P : tw_S → Option tw_A → Prop} {x : Int32} {g : tw_S} (hg : tw_up f 61 0 0 = g) (hx : x < 0 ∨ nI 2 ≤ x) (hP : P g (some (tw_I 0))) : tS fl (d + 2) 142 [tw_R 61, tw_I x] f P := by
  subst hg
  refine tw_Sp_of rfl rfl (Nat.le_of_ble_eq_true rfl) (fun X h => ?_)
  refine zi_aload_n h rfl rfl ?_
  refine zn_iconst h 0 rfl rfl ?_
  refine zp_int h rfl (by first | rfl | assumption) (by decide) rfl ?_
  refine zi_iload_n h rfl rfl ?_
  refine zn_iconst h 0 rfl rfl ?_
  refine zn_iconst h 1 rfl rfl ?_
  refine zk_S h [_, _, _] rfl rfl rfl (Nat.le_of_ble_eq_true rfl) (s_k_in0 (by omega) hx ?_)
  first | refine zb_ifeq h rfl (fun hc => ?_) (fun hc => ?_) | refine zc_ifeq h rfl (fun hc => ?_) (fun hc => ?_)
  · refine zn_iconst h 0 rfl rfl ?_
    refine zi_zret h rfl (by first | exact Or.inl rfl | exact Or.inr rfl | exact tw_nz_01 _ | assumption) ?_
    exact hP
  · exact absurd rfl hc
set_option maxRecDepth 20000 in
theorem s_m_restart_c {fl : Bool} {d : Nat} {f : tw_S} {P : tw_S → Option tw_A → Prop} {c : Nat} {g : tw_S} (hg : tw_up f 61 0 0 = g) (hc : c < 2) (h1 : ¬ g 66 c = 0 → P g (some (tw_I 0))) (h2 : g 66 c = 0 → P (tw_up (tw_up g 66 c 1) 98 c 0) (some (tw_I 1))) : tS fl (d + 2) 142 [tw_R 61, tw_I (nI c)] f P := by
  have hcc := hc
  refine tw_Sp_of rfl rfl (Nat.le_of_ble_eq_true rfl) (fun X h => ?_)
  refine zi_aload_n h rfl rfl ?_
  refine zn_iconst h 0 rfl rfl ?_
  refine zp_int h rfl (by first | rfl | assumption) (by decide) rfl ?_
  refine tw_mem (g := g) (fun q j => by rw [← hg]; rfl) ?_
  refine zi_iload_n h rfl rfl ?_
  refine zn_iconst h 0 rfl rfl ?_
  refine zn_iconst h 1 rfl rfl ?_
  refine zk_S h [_, _, _] rfl rfl rfl (Nat.le_of_ble_eq_true rfl) (s_k_in1 (by omega) (by omega) ?_)
  first | refine zb_ifeq h rfl (fun hc => ?_) (fun hc => ?_) | refine zc_ifeq h rfl (fun hc => ?_) (fun hc => ?_)
  · exact absurd hc (by decide)
  · refine zi_aload_n h rfl rfl ?_
    refine zg_ref h rfl (by first | rfl | assumption) (by decide) rfl rfl ?_
    refine zi_iload_n h rfl rfl ?_
    refine za_z h rfl (by first | rfl | assumption) rfl (by omega) (by decide) ?_
    first | refine zb_ifeq h rfl (fun hc => ?_) (fun hc => ?_) | refine zc_ifeq h rfl (fun hc => ?_) (fun hc => ?_)
    · refine zi_aload_n h rfl rfl ?_
      refine zg_ref h rfl (by first | rfl | assumption) (by decide) rfl rfl ?_
      refine zi_iload_n h rfl rfl ?_
      refine zn_iconst h 1 rfl rfl ?_
      refine zs_z h rfl (by first | rfl | assumption) rfl (by omega) (by decide) (by first | exact Or.inl rfl | exact Or.inr rfl | exact tw_nz_01 _ | assumption) ?_
      refine zi_aload_n h rfl rfl ?_
      refine zg_ref h rfl (by first | rfl | assumption) (by decide) rfl rfl ?_
      refine zi_iload_n h rfl rfl ?_
      refine zn_iconst h 0 rfl rfl ?_
      refine zs_i h rfl (by first | rfl | assumption) rfl (by omega) (by decide) ?_
      show X 25 _ _ _ _
      refine zn_iconst h 1 rfl rfl ?_
      refine zi_zret h rfl (by first | exact Or.inl rfl | exact Or.inr rfl | exact tw_nz_01 _ | assumption) ?_
      exact h2 hc
    · refine zn_iconst h 0 rfl rfl ?_
      refine zi_zret h rfl (by first | exact Or.inl rfl | exact Or.inr rfl | exact tw_nz_01 _ | assumption) ?_
      exact h1 hc
set_option maxRecDepth 20000 in
theorem s_m_takeOver_x {fl : Bool} {d : Nat} {f : tw_S} {P : tw_S → Option tw_A → Prop} {x : Int32} {g : tw_S} (hg : tw_up f 61 0 0 = g) (hx : x < 0 ∨ nI 2 ≤ x) (hP : P g (some (tw_I 0))) : tS fl (d + 2) 147 [tw_R 61, tw_I x] f P := by
  subst hg
  refine tw_Sp_of rfl rfl (Nat.le_of_ble_eq_true rfl) (fun X h => ?_)
  refine zi_aload_n h rfl rfl ?_
  refine zn_iconst h 0 rfl rfl ?_
  refine zp_int h rfl (by first | rfl | assumption) (by decide) rfl ?_
  refine zi_iload_n h rfl rfl ?_
  refine zi_istore_n h rfl (Nat.le_of_ble_eq_true rfl) ?_
  refine zi_iload_n h rfl rfl ?_
  refine zn_iconst h 0 rfl rfl ?_
  refine zn_iconst h 1 rfl rfl ?_
  refine zk_S h [_, _, _] rfl rfl rfl (Nat.le_of_ble_eq_true rfl) (s_k_in0 (by omega) hx ?_)
  first | refine zb_ifeq h rfl (fun hc => ?_) (fun hc => ?_) | refine zc_ifeq h rfl (fun hc => ?_) (fun hc => ?_)
  · refine zn_iconst h 0 rfl rfl ?_
    refine zi_zret h rfl (by first | exact Or.inl rfl | exact Or.inr rfl | exact tw_nz_01 _ | assumption) ?_
    exact hP
  · exact absurd rfl hc
set_option maxRecDepth 20000 in
theorem s_m_takeOver_c {fl : Bool} {d : Nat} {f : tw_S} {P : tw_S → Option tw_A → Prop} {c : Nat} {g : tw_S} (hg : tw_up f 61 0 0 = g) (hc : c < 2) (h1 : ¬ (¬ g 66 c = 0 ∧ g 84 c = 0) → P g (some (tw_I 0))) (h2 : (¬ g 66 c = 0 ∧ g 84 c = 0) → P (tw_up (tw_up (tw_up (tw_up (tw_up g 68 c 0) 67 c ((if g 67 c ≤ p_great (g 62) (g 63) 5 then p_great (g 62) (g 63) 5 else g 67 c) + 1)) 84 c 1) 85 c 0) 86 c 0) (some (tw_I 1))) : tS fl (d + 2) 147 [tw_R 61, tw_I (nI c)] f P := by
  have hcc := hc
  refine tw_Sp_of rfl rfl (Nat.le_of_ble_eq_true rfl) (fun X h => ?_)
  refine zi_aload_n h rfl rfl ?_
  refine zn_iconst h 0 rfl rfl ?_
  refine zp_int h rfl (by first | rfl | assumption) (by decide) rfl ?_
  refine tw_mem (g := g) (fun q j => by rw [← hg]; rfl) ?_
  refine zi_iload_n h rfl rfl ?_
  refine zi_istore_n h rfl (Nat.le_of_ble_eq_true rfl) ?_
  refine zi_iload_n h rfl rfl ?_
  refine zn_iconst h 0 rfl rfl ?_
  refine zn_iconst h 1 rfl rfl ?_
  refine zk_S h [_, _, _] rfl rfl rfl (Nat.le_of_ble_eq_true rfl) (s_k_in1 (by omega) (by omega) ?_)
  first | refine zb_ifeq h rfl (fun hc => ?_) (fun hc => ?_) | refine zc_ifeq h rfl (fun hc => ?_) (fun hc => ?_)
  · exact absurd hc (by decide)
  · refine zi_aload_n h rfl rfl ?_
    refine zg_ref h rfl (by first | rfl | assumption) (by decide) rfl rfl ?_
    refine zi_iload_n h rfl rfl ?_
    refine za_z h rfl (by first | rfl | assumption) rfl (by omega) (by decide) ?_
    first | refine zb_ifeq h rfl (fun hc => ?_) (fun hc => ?_) | refine zc_ifeq h rfl (fun hc => ?_) (fun hc => ?_)
    · refine zn_iconst h 0 rfl rfl ?_
      refine zi_zret h rfl (by first | exact Or.inl rfl | exact Or.inr rfl | exact tw_nz_01 _ | assumption) ?_
      exact h1 (fun u => u.1 hc)
    · have c1 := hc
      refine zi_aload_n h rfl rfl ?_
      refine zg_ref h rfl (by first | rfl | assumption) (by decide) rfl rfl ?_
      refine zi_iload_n h rfl rfl ?_
      refine za_z h rfl (by first | rfl | assumption) rfl (by omega) (by decide) ?_
      first | refine zb_ifeq h rfl (fun hc => ?_) (fun hc => ?_) | refine zc_ifeq h rfl (fun hc => ?_) (fun hc => ?_)
      · have h2 := h2 ⟨c1, hc⟩
        have e62 : tw_up g 68 c 0 62 = g 62 := by funext j; exact tw_off (by omega)
        have e63 : tw_up g 68 c 0 63 = g 63 := by funext j; exact tw_off (by omega)
        have e67 : tw_up g 68 c 0 67 c = g 67 c := tw_off (by omega)
        refine zi_aload_n h rfl rfl ?_
        refine zg_ref h rfl (by first | rfl | assumption) (by decide) rfl rfl ?_
        refine zi_iload_n h rfl rfl ?_
        refine zn_iconst h 0 rfl rfl ?_
        refine zs_z h rfl (by first | rfl | assumption) rfl (by omega) (by decide) (by first | exact Or.inl rfl | exact Or.inr rfl | exact tw_nz_01 _ | assumption) ?_
        refine tw_mem (g := tw_up g 68 c 0) (fun _ _ => rfl) ?_
        refine zi_aload_n h rfl rfl ?_
        refine zk_V h [] rfl (by first | rfl | assumption) rfl rfl (Nat.le_of_ble_eq_true rfl) (s_k_greatest ?_)
        rw [e62, e63]
        generalize p_great (g 62) (g 63) 5 = most at h2 ⊢
        show X 29 _ [tw_I most] _ _
        refine zi_istore_n h rfl (Nat.le_of_ble_eq_true rfl) ?_
        refine zi_aload_n h rfl rfl ?_
        refine zg_ref h rfl (by first | rfl | assumption) (by decide) rfl rfl ?_
        refine zi_iload_n h rfl rfl ?_
        refine za_i h rfl (by first | rfl | assumption) rfl (by omega) (by decide) ?_
        rw [e67]
        refine zi_iload_n h rfl rfl ?_
        refine zc_icmple h rfl (fun hc => ?_) (fun hc => ?_)
        · rw [if_pos hc] at h2
          refine zi_aload_n h rfl rfl ?_
          refine zg_ref h rfl (by first | rfl | assumption) (by decide) rfl rfl ?_
          refine zi_iload_n h rfl rfl ?_
          refine zi_iload_n h rfl rfl ?_
          refine zn_iconst h 1 rfl rfl ?_
          first | refine zn_iadd h rfl ?_ | refine zi_iadd h rfl ?_
          refine zs_i h rfl (by first | rfl | assumption) rfl (by omega) (by decide) ?_
          refine zi_aload_n h rfl rfl ?_
          refine zg_ref h rfl (by first | rfl | assumption) (by decide) rfl rfl ?_
          refine zi_iload_n h rfl rfl ?_
          show X 51 _ _ _ _
          refine zn_iconst h 1 rfl rfl ?_
          refine zs_z h rfl (by first | rfl | assumption) rfl (by omega) (by decide) (by first | exact Or.inl rfl | exact Or.inr rfl | exact tw_nz_01 _ | assumption) ?_
          refine zi_aload_n h rfl rfl ?_
          refine zg_ref h rfl (by first | rfl | assumption) (by decide) rfl rfl ?_
          refine zi_iload_n h rfl rfl ?_
          refine zn_iconst h 0 rfl rfl ?_
          refine zs_i h rfl (by first | rfl | assumption) rfl (by omega) (by decide) ?_
          refine zi_aload_n h rfl rfl ?_
          refine zg_ref h rfl (by first | rfl | assumption) (by decide) rfl rfl ?_
          refine zi_iload_n h rfl rfl ?_
          show X 61 _ _ _ _
          refine zn_iconst h 0 rfl rfl ?_
          refine zs_i h rfl (by first | rfl | assumption) rfl (by omega) (by decide) ?_
          refine zn_iconst h 1 rfl rfl ?_
          refine zi_zret h rfl (by first | exact Or.inl rfl | exact Or.inr rfl | exact tw_nz_01 _ | assumption) ?_
          exact h2
        · rw [if_neg hc] at h2
          refine zi_aload_n h rfl rfl ?_
          refine zg_ref h rfl (by first | rfl | assumption) (by decide) rfl rfl ?_
          refine zi_iload_n h rfl rfl ?_
          refine za_i h rfl (by first | rfl | assumption) rfl (by omega) (by decide) ?_
          rw [e67]
          refine zi_istore_n h rfl (Nat.le_of_ble_eq_true rfl) ?_
          refine zi_aload_n h rfl rfl ?_
          refine zg_ref h rfl (by first | rfl | assumption) (by decide) rfl rfl ?_
          refine zi_iload_n h rfl rfl ?_
          refine zi_iload_n h rfl rfl ?_
          refine zn_iconst h 1 rfl rfl ?_
          first | refine zn_iadd h rfl ?_ | refine zi_iadd h rfl ?_
          refine zs_i h rfl (by first | rfl | assumption) rfl (by omega) (by decide) ?_
          refine zi_aload_n h rfl rfl ?_
          refine zg_ref h rfl (by first | rfl | assumption) (by decide) rfl rfl ?_
          show X 50 _ _ _ _
          refine zi_iload_n h rfl rfl ?_
          refine zn_iconst h 1 rfl rfl ?_
          refine zs_z h rfl (by first | rfl | assumption) rfl (by omega) (by decide) (by first | exact Or.inl rfl | exact Or.inr rfl | exact tw_nz_01 _ | assumption) ?_
          refine zi_aload_n h rfl rfl ?_
          refine zg_ref h rfl (by first | rfl | assumption) (by decide) rfl rfl ?_
          refine zi_iload_n h rfl rfl ?_
          refine zn_iconst h 0 rfl rfl ?_
          refine zs_i h rfl (by first | rfl | assumption) rfl (by omega) (by decide) ?_
          refine zi_aload_n h rfl rfl ?_
          refine zg_ref h rfl (by first | rfl | assumption) (by decide) rfl rfl ?_
          show X 60 _ _ _ _
          refine zi_iload_n h rfl rfl ?_
          refine zn_iconst h 0 rfl rfl ?_
          refine zs_i h rfl (by first | rfl | assumption) rfl (by omega) (by decide) ?_
          refine zn_iconst h 1 rfl rfl ?_
          refine zi_zret h rfl (by first | exact Or.inl rfl | exact Or.inr rfl | exact tw_nz_01 _ | assumption) ?_
          exact h2
      · refine zn_iconst h 0 rfl rfl ?_
        refine zi_zret h rfl (by first | exact Or.inl rfl | exact Or.inr rfl | exact tw_nz_01 _ | assumption) ?_
        exact h1 (fun u => hc u.2)
set_option maxRecDepth 20000 in
theorem s_m_flush_x {fl : Bool} {d : Nat} {f : tw_S} {P : tw_S → Option tw_A → Prop} {x : Int32} {g : tw_S} (hg : tw_up f 61 0 0 = g) (hx : x < 0 ∨ nI 2 ≤ x) (hP : P g (some (tw_I 0))) : tS fl (d + 2) 149 [tw_R 61, tw_I x] f P := by
  subst hg
  refine tw_Sp_of rfl rfl (Nat.le_of_ble_eq_true rfl) (fun X h => ?_)
  refine zi_aload_n h rfl rfl ?_
  refine zn_iconst h 0 rfl rfl ?_
  refine zp_int h rfl (by first | rfl | assumption) (by decide) rfl ?_
  refine zi_iload_n h rfl rfl ?_
  refine zn_iconst h 0 rfl rfl ?_
  refine zn_iconst h 1 rfl rfl ?_
  refine zk_S h [_, _, _] rfl rfl rfl (Nat.le_of_ble_eq_true rfl) (s_k_in0 (by omega) hx ?_)
  first | refine zb_ifeq h rfl (fun hc => ?_) (fun hc => ?_) | refine zc_ifeq h rfl (fun hc => ?_) (fun hc => ?_)
  · refine zn_iconst h 0 rfl rfl ?_
    refine zi_zret h rfl (by first | exact Or.inl rfl | exact Or.inr rfl | exact tw_nz_01 _ | assumption) ?_
    exact hP
  · exact absurd rfl hc
set_option maxRecDepth 20000 in
theorem s_m_flush_c {fl : Bool} {d : Nat} {f : tw_S} {P : tw_S → Option tw_A → Prop} {c : Nat} {g : tw_S} (hg : tw_up f 61 0 0 = g) (hc : c < 2) (h1 : g 66 c = 0 → P g (some (tw_I 0))) (h2 : ¬ g 66 c = 0 → P (tw_up g 94 c 1) (some (tw_I 1))) : tS fl (d + 2) 149 [tw_R 61, tw_I (nI c)] f P := by
  have hcc := hc
  refine tw_Sp_of rfl rfl (Nat.le_of_ble_eq_true rfl) (fun X h => ?_)
  refine zi_aload_n h rfl rfl ?_
  refine zn_iconst h 0 rfl rfl ?_
  refine zp_int h rfl (by first | rfl | assumption) (by decide) rfl ?_
  refine tw_mem (g := g) (fun q j => by rw [← hg]; rfl) ?_
  refine zi_iload_n h rfl rfl ?_
  refine zn_iconst h 0 rfl rfl ?_
  refine zn_iconst h 1 rfl rfl ?_
  refine zk_S h [_, _, _] rfl rfl rfl (Nat.le_of_ble_eq_true rfl) (s_k_in1 (by omega) (by omega) ?_)
  first | refine zb_ifeq h rfl (fun hc => ?_) (fun hc => ?_) | refine zc_ifeq h rfl (fun hc => ?_) (fun hc => ?_)
  · exact absurd hc (by decide)
  · refine zi_aload_n h rfl rfl ?_
    refine zg_ref h rfl (by first | rfl | assumption) (by decide) rfl rfl ?_
    refine zi_iload_n h rfl rfl ?_
    refine za_z h rfl (by first | rfl | assumption) rfl (by omega) (by decide) ?_
    first | refine zb_ifne h rfl (fun hc => ?_) (fun hc => ?_) | refine zc_ifne h rfl (fun hc => ?_) (fun hc => ?_)
    · refine zi_aload_n h rfl rfl ?_
      refine zg_ref h rfl (by first | rfl | assumption) (by decide) rfl rfl ?_
      refine zi_iload_n h rfl rfl ?_
      refine zn_iconst h 1 rfl rfl ?_
      refine zs_z h rfl (by first | rfl | assumption) rfl (by omega) (by decide) (by first | exact Or.inl rfl | exact Or.inr rfl | exact tw_nz_01 _ | assumption) ?_
      refine zn_iconst h 1 rfl rfl ?_
      refine zi_zret h rfl (by first | exact Or.inl rfl | exact Or.inr rfl | exact tw_nz_01 _ | assumption) ?_
      exact h2 hc
    · refine zn_iconst h 0 rfl rfl ?_
      refine zi_zret h rfl (by first | exact Or.inl rfl | exact Or.inr rfl | exact tw_nz_01 _ | assumption) ?_
      exact h1 hc
set_option maxRecDepth 20000 in
theorem s_m_lose_x {fl : Bool} {d : Nat} {f : tw_S} {P : tw_S → Option tw_A → Prop} {x : Int32} {g : tw_S} (hg : tw_up f 61 0 0 = g) (hx : x < 0 ∨ nI 5 ≤ x) (hP : P g (some (tw_I 0))) : tS fl (d + 2) 150 [tw_R 61, tw_I x] f P := by
  subst hg
  refine tw_Sp_of rfl rfl (Nat.le_of_ble_eq_true rfl) (fun X h => ?_)
  refine zi_aload_n h rfl rfl ?_
  refine zn_iconst h 0 rfl rfl ?_
  refine zp_int h rfl (by first | rfl | assumption) (by decide) rfl ?_
  refine zi_iload_n h rfl rfl ?_
  refine zn_iconst h 0 rfl rfl ?_
  refine zn_iconst h 4 rfl rfl ?_
  refine zk_S h [_, _, _] rfl rfl rfl (Nat.le_of_ble_eq_true rfl) (s_k_in0 (by omega) hx ?_)
  first | refine zb_ifeq h rfl (fun hc => ?_) (fun hc => ?_) | refine zc_ifeq h rfl (fun hc => ?_) (fun hc => ?_)
  · refine zn_iconst h 0 rfl rfl ?_
    refine zi_zret h rfl (by first | exact Or.inl rfl | exact Or.inr rfl | exact tw_nz_01 _ | assumption) ?_
    exact hP
  · exact absurd rfl hc
def k_lose (f : tw_S) (i n : Nat) : tw_S := fun q j => if q = 62 ∧ j = i then 0 else if q = 65 ∧ i * 8 ≤ j ∧ j < i * 8 + n then 1 else f q j
set_option maxRecDepth 20000 in
theorem s_m_lose_i {fl : Bool} {d : Nat} {f : tw_S} {P : tw_S → Option tw_A → Prop} {i : Nat} {g : tw_S} (hg : tw_up f 61 0 0 = g) (hi : i < 5) (h1 : g 62 i = 0 → P g (some (tw_I 0))) (h2 : ¬ g 62 i = 0 → P (k_lose g i 8) (some (tw_I 1))) : tS fl (d + 2) 150 [tw_R 61, tw_I (nI i)] f P := by
  refine tw_Sp_of rfl rfl (Nat.le_of_ble_eq_true rfl) (fun X h => ?_)
  refine zi_aload_n h rfl rfl ?_
  refine zn_iconst h 0 rfl rfl ?_
  refine zp_int h rfl (by first | rfl | assumption) (by decide) rfl ?_
  refine tw_mem (g := g) (fun q j => by rw [← hg]; rfl) ?_
  refine zi_iload_n h rfl rfl ?_
  refine zn_iconst h 0 rfl rfl ?_
  refine zn_iconst h 4 rfl rfl ?_
  refine zk_S h [_, _, _] rfl rfl rfl (Nat.le_of_ble_eq_true rfl) (s_k_in1 (by omega) (by omega) ?_)
  first | refine zb_ifeq h rfl (fun hc => ?_) (fun hc => ?_) | refine zc_ifeq h rfl (fun hc => ?_) (fun hc => ?_)
  · exact absurd hc (by decide)
  · refine zi_aload_n h rfl rfl ?_
    refine zg_ref h rfl (by first | rfl | assumption) (by decide) rfl rfl ?_
    refine zi_iload_n h rfl rfl ?_
    refine za_z h rfl (by first | rfl | assumption) rfl (by omega) (by decide) ?_
    first | refine zb_ifne h rfl (fun hc => ?_) (fun hc => ?_) | refine zc_ifne h rfl (fun hc => ?_) (fun hc => ?_)
    · have c0 := hc
      have loop : ∀ n s : Nat, s + n = 8 → X 22 [some (tw_R 61), some (tw_I (nI i)), some (tw_I (nI s))] [] tx_L0 (k_lose g i s) := by
        intro n
        induction n with
        | zero =>
          intro s hs
          obtain rfl : s = 8 := by omega
          refine zi_iload_n h rfl rfl ?_
          refine zn_bipush h 8 rfl rfl ?_
          first | refine zn_icmpge h rfl (by omega) (by omega) (fun hc => ?_) (fun hc => ?_) | refine zc_icmpge h rfl (fun hc => ?_) (fun hc => ?_)
          · refine zn_iconst h 1 rfl rfl ?_
            refine zi_zret h rfl (by first | exact Or.inl rfl | exact Or.inr rfl | exact tw_nz_01 _ | assumption) ?_
            exact h2 c0
          · omega
        | succ n ih =>
          intro s hs
          have ih := ih (s + 1) (by omega)
          unfold k_lose at ih ⊢
          refine zi_iload_n h rfl rfl ?_
          refine zn_bipush h 8 rfl rfl ?_
          first | refine zn_icmpge h rfl (by omega) (by omega) (fun hc => ?_) (fun hc => ?_) | refine zc_icmpge h rfl (fun hc => ?_) (fun hc => ?_)
          · omega
          · refine zi_aload_n h rfl rfl ?_
            refine zg_ref h rfl (by first | rfl | assumption) (by decide) rfl rfl ?_
            refine zn_bipush h 8 rfl rfl ?_
            refine zi_iload_n h rfl rfl ?_
            first | refine zn_imul h rfl ?_ | refine zi_imul h rfl ?_
            refine zi_iload_n h rfl rfl ?_
            first | refine zn_iadd h rfl ?_ | refine zi_iadd h rfl ?_
            refine zn_iconst h 1 rfl rfl ?_
            refine zs_z h rfl (by first | rfl | assumption) rfl (by omega) (by decide) (by first | exact Or.inl rfl | exact Or.inr rfl | exact tw_nz_01 _ | assumption) ?_
            first | refine zn_iinc h 1 rfl rfl rfl ?_ | refine zi_iinc h rfl rfl ?_
            show X 35 _ _ _ _
            refine zi_goto h rfl ?_
            refine tw_mem (fun q j => ?_) (ih)
            try simp only [tw_up, tw_n0, tw_n1, tw_n2, false_and, and_false, true_and, and_true, false_or, or_false, if_true, if_false]
            (repeat' split) <;> first | rfl | omega | exact tw_cgf (by omega) (by omega)
      refine zi_aload_n h rfl rfl ?_
      refine zg_ref h rfl (by first | rfl | assumption) (by decide) rfl rfl ?_
      refine zi_iload_n h rfl rfl ?_
      refine zn_iconst h 0 rfl rfl ?_
      refine zs_z h rfl (by first | rfl | assumption) rfl (by omega) (by decide) (by first | exact Or.inl rfl | exact Or.inr rfl | exact tw_nz_01 _ | assumption) ?_
      refine zn_iconst h 0 rfl rfl ?_
      refine zi_istore_n h rfl (Nat.le_of_ble_eq_true rfl) ?_
      have l0 := loop 8 0 (by omega)
      unfold k_lose at l0
      refine tw_mem (fun q j => ?_) (l0)
      try simp only [tw_up, tw_n0, tw_n1, tw_n2, false_and, and_false, true_and, and_true, false_or, or_false, if_true, if_false]
      (repeat' split) <;> first | rfl | omega | exact tw_cgf (by omega) (by omega)
    · refine zn_iconst h 0 rfl rfl ?_
      refine zi_zret h rfl (by first | exact Or.inl rfl | exact Or.inr rfl | exact tw_nz_01 _ | assumption) ?_
      exact h1 hc
set_option maxRecDepth 20000 in
theorem s_m_replace_x {fl : Bool} {d : Nat} {f : tw_S} {P : tw_S → Option tw_A → Prop} {x : Int32} {g : tw_S} (hg : tw_up f 61 0 0 = g) (hx : x < 0 ∨ nI 5 ≤ x) (hP : P g (some (tw_I 0))) : tS fl (d + 2) 151 [tw_R 61, tw_I x] f P := by
  subst hg
  refine tw_Sp_of rfl rfl (Nat.le_of_ble_eq_true rfl) (fun X h => ?_)
  refine zi_aload_n h rfl rfl ?_
  refine zn_iconst h 0 rfl rfl ?_
  refine zp_int h rfl (by first | rfl | assumption) (by decide) rfl ?_
  refine zi_iload_n h rfl rfl ?_
  refine zn_iconst h 0 rfl rfl ?_
  refine zn_iconst h 4 rfl rfl ?_
  refine zk_S h [_, _, _] rfl rfl rfl (Nat.le_of_ble_eq_true rfl) (s_k_in0 (by omega) hx ?_)
  first | refine zb_ifeq h rfl (fun hc => ?_) (fun hc => ?_) | refine zc_ifeq h rfl (fun hc => ?_) (fun hc => ?_)
  · refine zn_iconst h 0 rfl rfl ?_
    refine zi_zret h rfl (by first | exact Or.inl rfl | exact Or.inr rfl | exact tw_nz_01 _ | assumption) ?_
    exact hP
  · exact absurd rfl hc
set_option maxRecDepth 20000 in
theorem s_m_replace_i {fl : Bool} {d : Nat} {f : tw_S} {P : tw_S → Option tw_A → Prop} {i : Nat} {g : tw_S} (hg : tw_up f 61 0 0 = g) (hi : i < 5) (h1 : ¬ g 62 i = 0 → P g (some (tw_I 0))) (h2 : g 62 i = 0 → P (tw_up (tw_up g 63 i (p_great (g 62) (g 63) 5)) 62 i 1) (some (tw_I 1))) : tS fl (d + 2) 151 [tw_R 61, tw_I (nI i)] f P := by
  refine tw_Sp_of rfl rfl (Nat.le_of_ble_eq_true rfl) (fun X h => ?_)
  refine zi_aload_n h rfl rfl ?_
  refine zn_iconst h 0 rfl rfl ?_
  refine zp_int h rfl (by first | rfl | assumption) (by decide) rfl ?_
  refine tw_mem (g := g) (fun q j => by rw [← hg]; rfl) ?_
  refine zi_iload_n h rfl rfl ?_
  refine zn_iconst h 0 rfl rfl ?_
  refine zn_iconst h 4 rfl rfl ?_
  refine zk_S h [_, _, _] rfl rfl rfl (Nat.le_of_ble_eq_true rfl) (s_k_in1 (by omega) (by omega) ?_)
  first | refine zb_ifeq h rfl (fun hc => ?_) (fun hc => ?_) | refine zc_ifeq h rfl (fun hc => ?_) (fun hc => ?_)
  · exact absurd hc (by decide)
  · refine zi_aload_n h rfl rfl ?_
    refine zg_ref h rfl (by first | rfl | assumption) (by decide) rfl rfl ?_
    refine zi_iload_n h rfl rfl ?_
    refine za_z h rfl (by first | rfl | assumption) rfl (by omega) (by decide) ?_
    first | refine zb_ifeq h rfl (fun hc => ?_) (fun hc => ?_) | refine zc_ifeq h rfl (fun hc => ?_) (fun hc => ?_)
    · refine zi_aload_n h rfl rfl ?_
      refine zg_ref h rfl (by first | rfl | assumption) (by decide) rfl rfl ?_
      refine zi_iload_n h rfl rfl ?_
      refine zi_aload_n h rfl rfl ?_
      refine zk_V h [] rfl (by first | rfl | assumption) rfl rfl (Nat.le_of_ble_eq_true rfl) (s_k_greatest ?_)
      refine zs_i h rfl (by first | rfl | assumption) rfl (by omega) (by decide) ?_
      refine zi_aload_n h rfl rfl ?_
      refine zg_ref h rfl (by first | rfl | assumption) (by decide) rfl rfl ?_
      refine zi_iload_n h rfl rfl ?_
      refine zn_iconst h 1 rfl rfl ?_
      refine zs_z h rfl (by first | rfl | assumption) rfl (by omega) (by decide) (by first | exact Or.inl rfl | exact Or.inr rfl | exact tw_nz_01 _ | assumption) ?_
      refine zn_iconst h 1 rfl rfl ?_
      refine zi_zret h rfl (by first | exact Or.inl rfl | exact Or.inr rfl | exact tw_nz_01 _ | assumption) ?_
      exact h2 hc
    · refine zn_iconst h 0 rfl rfl ?_
      refine zi_zret h rfl (by first | exact Or.inl rfl | exact Or.inr rfl | exact tw_nz_01 _ | assumption) ?_
      exact h1 hc
set_option maxRecDepth 20000 in
theorem s_m_rebuild_x {fl : Bool} {d : Nat} {f : tw_S} {P : tw_S → Option tw_A → Prop} {x : Int32} {g : tw_S} (hg : tw_up f 61 0 0 = g) (hx : x < 0 ∨ nI 5 ≤ x) (hP : P g (some (tw_I (-1)))) : tS fl (d + 3) 152 [tw_R 61, tw_I x] f P := by
  subst hg
  refine tw_Sp_of rfl rfl (Nat.le_of_ble_eq_true rfl) (fun X h => ?_)
  refine zi_aload_n h rfl rfl ?_
  refine zn_iconst h 0 rfl rfl ?_
  refine zp_int h rfl (by first | rfl | assumption) (by decide) rfl ?_
  refine zi_iload_n h rfl rfl ?_
  refine zn_iconst h 0 rfl rfl ?_
  refine zn_iconst h 4 rfl rfl ?_
  refine zk_S h [_, _, _] rfl rfl rfl (Nat.le_of_ble_eq_true rfl) (s_k_in0 (by omega) hx ?_)
  first | refine zb_ifeq h rfl (fun hc => ?_) (fun hc => ?_) | refine zc_ifeq h rfl (fun hc => ?_) (fun hc => ?_)
  · refine zi_iconst h rfl ?_
    refine zi_iret h rfl ?_
    exact hP
  · exact absurd rfl hc
set_option maxRecDepth 20000 in
theorem s_m_rebuild_i {fl : Bool} {d : Nat} {f : tw_S} {P : tw_S → Option tw_A → Prop} {i : Nat} {g : tw_S} (hg : tw_up f 61 0 0 = g) (hi : i < 5) (h1 : g 62 i = 0 → P g (some (tw_I (-1)))) (h2 : ¬ g 62 i = 0 → ¬ p_ft (fun s => g 65 (i * 8 + s)) 8 0 < 8 → P g (some (tw_I (-1)))) (h3 : ¬ g 62 i = 0 → p_ft (fun s => g 65 (i * 8 + s)) 8 0 < 8 → p_om (g 65) i (p_ft (fun s => g 65 (i * 8 + s)) 8 0) 5 → P g (some (tw_I (-1)))) (h4 : ¬ g 62 i = 0 → p_ft (fun s => g 65 (i * 8 + s)) 8 0 < 8 → ¬ p_om (g 65) i (p_ft (fun s => g 65 (i * 8 + s)) 8 0) 5 → P (k_put g i (p_ft (fun s => g 65 (i * 8 + s)) 8 0) (p_xor (g 64) i (p_ft (fun s => g 65 (i * 8 + s)) 8 0) 5)) (some (tw_I (nI (p_ft (fun s => g 65 (i * 8 + s)) 8 0))))) : tS fl (d + 3) 152 [tw_R 61, tw_I (nI i)] f P := by
  refine tw_Sp_of rfl rfl (Nat.le_of_ble_eq_true rfl) (fun X h => ?_)
  refine zi_aload_n h rfl rfl ?_
  refine zn_iconst h 0 rfl rfl ?_
  refine zp_int h rfl (by first | rfl | assumption) (by decide) rfl ?_
  refine tw_mem (g := g) (fun q j => by rw [← hg]; rfl) ?_
  refine zi_iload_n h rfl rfl ?_
  refine zn_iconst h 0 rfl rfl ?_
  refine zn_iconst h 4 rfl rfl ?_
  refine zk_S h [_, _, _] rfl rfl rfl (Nat.le_of_ble_eq_true rfl) (s_k_in1 (by omega) (by omega) ?_)
  first | refine zb_ifeq h rfl (fun hc => ?_) (fun hc => ?_) | refine zc_ifeq h rfl (fun hc => ?_) (fun hc => ?_)
  · exact absurd hc (by decide)
  · refine zi_aload_n h rfl rfl ?_
    refine zg_ref h rfl (by first | rfl | assumption) (by decide) rfl rfl ?_
    refine zi_iload_n h rfl rfl ?_
    refine za_z h rfl (by first | rfl | assumption) rfl (by omega) (by decide) ?_
    first | refine zb_ifne h rfl (fun hc => ?_) (fun hc => ?_) | refine zc_ifne h rfl (fun hc => ?_) (fun hc => ?_)
    · have c0 := hc
      have done : ∀ s : Nat, s ≤ 8 → s = p_ft (fun s => g 65 (i * 8 + s)) 8 0 → X 27 [some (tw_R 61), some (tw_I (nI i)), some (tw_I (nI s))] [] tx_L0 g := by
        intro s hs he
        rw [← he] at h2 h3 h4
        refine zi_iload_n h rfl rfl ?_
        refine zn_bipush h 8 rfl rfl ?_
        first | refine zn_icmpeq h rfl (by omega) (by omega) (fun hc => ?_) (fun hc => ?_) | refine zc_icmpeq h rfl (fun hc => ?_) (fun hc => ?_)
        · refine zi_iconst h rfl ?_
          refine zi_iret h rfl ?_
          exact h2 c0 (by omega)
        · refine zi_aload_n h rfl rfl ?_
          refine zi_iload_n h rfl rfl ?_
          refine zi_iload_n h rfl rfl ?_
          refine zk_V h [_, _] rfl (by first | rfl | assumption) rfl rfl (Nat.le_of_ble_eq_true rfl) (s_k_othersThere (by omega) (by omega) (fun u => ?_) (fun u => ?_))
          · first | refine zb_ifne h rfl (fun hc => ?_) (fun hc => ?_) | refine zc_ifne h rfl (fun hc => ?_) (fun hc => ?_)
            · refine zi_aload_n h rfl rfl ?_
              refine zi_iload_n h rfl rfl ?_
              refine zi_iload_n h rfl rfl ?_
              refine zi_aload_n h rfl rfl ?_
              refine zi_iload_n h rfl rfl ?_
              refine zi_iload_n h rfl rfl ?_
              refine zk_V h [_, _] rfl (by first | rfl | assumption) rfl rfl (Nat.le_of_ble_eq_true rfl) (s_k_others (by omega) (by omega) ?_)
              refine zk_V h [_, _, _] rfl (by first | rfl | assumption) rfl rfl (Nat.le_of_ble_eq_true rfl) (s_k_lands hi (by omega) ?_)
              refine zi_iload_n h rfl rfl ?_
              refine zi_iret h rfl ?_
              exact h4 c0 (by omega) u
            · exact absurd hc (by decide)
          · first | refine zb_ifne h rfl (fun hc => ?_) (fun hc => ?_) | refine zc_ifne h rfl (fun hc => ?_) (fun hc => ?_)
            · exact absurd rfl hc
            · refine zi_iconst h rfl ?_
              refine zi_iret h rfl ?_
              exact h3 c0 (by omega) u
      have loop : ∀ m s : Nat, s + m = 8 → p_ft (fun s => g 65 (i * 8 + s)) m s = p_ft (fun s => g 65 (i * 8 + s)) 8 0 → X 17 [some (tw_R 61), some (tw_I (nI i)), some (tw_I (nI s))] [] tx_L0 g := by
        intro m
        induction m with
        | zero =>
          intro s hs he
          obtain rfl : s = 8 := by omega
          have he : 8 = p_ft (fun s => g 65 (i * 8 + s)) 8 0 := he
          refine zi_iload_n h rfl rfl ?_
          refine zn_bipush h 8 rfl rfl ?_
          first | refine zn_icmpge h rfl (by omega) (by omega) (fun hc => ?_) (fun hc => ?_) | refine zc_icmpge h rfl (fun hc => ?_) (fun hc => ?_)
          · exact done 8 (by omega) he
          · omega
        | succ m ih =>
          intro s hs he
          refine zi_iload_n h rfl rfl ?_
          refine zn_bipush h 8 rfl rfl ?_
          first | refine zn_icmpge h rfl (by omega) (by omega) (fun hc => ?_) (fun hc => ?_) | refine zc_icmpge h rfl (fun hc => ?_) (fun hc => ?_)
          · omega
          · refine zi_aload_n h rfl rfl ?_
            refine zi_iload_n h rfl rfl ?_
            refine zi_iload_n h rfl rfl ?_
            refine zk_V h [_, _] rfl (by first | rfl | assumption) rfl rfl (Nat.le_of_ble_eq_true rfl) (s_k_isMissing hi (by omega) ?_)
            first | refine zb_ifne h rfl (fun hc => ?_) (fun hc => ?_) | refine zc_ifne h rfl (fun hc => ?_) (fun hc => ?_)
            · exact done s (by omega) (by rw [← he]; simp [p_ft, hc])
            · have ih := ih (s + 1) (by omega) (by rw [← he]; simp [p_ft, hc])
              first | refine zn_iinc h 1 rfl rfl rfl ?_ | refine zi_iinc h rfl rfl ?_
              refine zi_goto h rfl ?_
              exact ih
      refine zn_iconst h 0 rfl rfl ?_
      refine zi_istore_n h rfl (Nat.le_of_ble_eq_true rfl) ?_
      exact loop 8 0 (by omega) rfl
    · refine zi_iconst h rfl ?_
      refine zi_iret h rfl ?_
      exact h1 hc
set_option maxRecDepth 20000 in
theorem s_m_keyOf_x {fl : Bool} {d : Nat} {f : tw_S} {P : tw_S → Option tw_A → Prop} {x : Int32} {g : tw_S} (hg : tw_up f 61 0 0 = g) (hx : x < 0 ∨ nI 5 ≤ x) (hP : P g (some (tw_I (-1)))) : tS fl (d + 2) 157 [tw_R 61, tw_I x] f P := by
  subst hg
  refine tw_Sp_of rfl rfl (Nat.le_of_ble_eq_true rfl) (fun X h => ?_)
  refine zi_aload_n h rfl rfl ?_
  refine zn_iconst h 0 rfl rfl ?_
  refine zp_int h rfl (by first | rfl | assumption) (by decide) rfl ?_
  refine zi_iload_n h rfl rfl ?_
  refine zn_iconst h 0 rfl rfl ?_
  refine zn_iconst h 4 rfl rfl ?_
  refine zk_S h [_, _, _] rfl rfl rfl (Nat.le_of_ble_eq_true rfl) (s_k_in0 (by omega) hx ?_)
  first | refine zb_ifeq h rfl (fun hc => ?_) (fun hc => ?_) | refine zc_ifeq h rfl (fun hc => ?_) (fun hc => ?_)
  · refine zi_iconst h rfl ?_
    refine zi_iret h rfl ?_
    exact hP
  · exact absurd rfl hc
set_option maxRecDepth 20000 in
theorem s_m_keyOf_i {fl : Bool} {d : Nat} {f : tw_S} {P : tw_S → Option tw_A → Prop} {i : Nat} {g : tw_S} (hg : tw_up f 61 0 0 = g) (hi : i < 5) (h1 : g 62 i = 0 → P g (some (tw_I (-1)))) (h2 : ¬ g 62 i = 0 → P g (some (tw_I (g 63 i)))) : tS fl (d + 2) 157 [tw_R 61, tw_I (nI i)] f P := by
  refine tw_Sp_of rfl rfl (Nat.le_of_ble_eq_true rfl) (fun X h => ?_)
  refine zi_aload_n h rfl rfl ?_
  refine zn_iconst h 0 rfl rfl ?_
  refine zp_int h rfl (by first | rfl | assumption) (by decide) rfl ?_
  refine tw_mem (g := g) (fun q j => by rw [← hg]; rfl) ?_
  refine zi_iload_n h rfl rfl ?_
  refine zn_iconst h 0 rfl rfl ?_
  refine zn_iconst h 4 rfl rfl ?_
  refine zk_S h [_, _, _] rfl rfl rfl (Nat.le_of_ble_eq_true rfl) (s_k_in1 (by omega) (by omega) ?_)
  first | refine zb_ifeq h rfl (fun hc => ?_) (fun hc => ?_) | refine zc_ifeq h rfl (fun hc => ?_) (fun hc => ?_)
  · exact absurd hc (by decide)
  · refine zi_aload_n h rfl rfl ?_
    refine zg_ref h rfl (by first | rfl | assumption) (by decide) rfl rfl ?_
    refine zi_iload_n h rfl rfl ?_
    refine za_z h rfl (by first | rfl | assumption) rfl (by omega) (by decide) ?_
    first | refine zb_ifne h rfl (fun hc => ?_) (fun hc => ?_) | refine zc_ifne h rfl (fun hc => ?_) (fun hc => ?_)
    · refine zi_aload_n h rfl rfl ?_
      refine zg_ref h rfl (by first | rfl | assumption) (by decide) rfl rfl ?_
      refine zi_iload_n h rfl rfl ?_
      refine za_i h rfl (by first | rfl | assumption) rfl (by omega) (by decide) ?_
      refine zi_iret h rfl ?_
      exact h2 hc
    · refine zi_iconst h rfl ?_
      refine zi_iret h rfl ?_
      exact h1 hc
set_option maxRecDepth 20000 in
theorem s_m_parityGood_x {fl : Bool} {d : Nat} {f : tw_S} {P : tw_S → Option tw_A → Prop} {x : Int32} {g : tw_S} (hg : tw_up f 61 0 0 = g) (hx : x < 0 ∨ nI 8 ≤ x) (hP : P g (some (tw_I (-1)))) : tS fl (d + 2) 155 [tw_R 61, tw_I x] f P := by
  subst hg
  refine tw_Sp_of rfl rfl (Nat.le_of_ble_eq_true rfl) (fun X h => ?_)
  refine zi_aload_n h rfl rfl ?_
  refine zn_iconst h 0 rfl rfl ?_
  refine zp_int h rfl (by first | rfl | assumption) (by decide) rfl ?_
  refine zi_iload_n h rfl rfl ?_
  refine zn_iconst h 0 rfl rfl ?_
  refine zn_bipush h 7 rfl rfl ?_
  refine zk_S h [_, _, _] rfl rfl rfl (Nat.le_of_ble_eq_true rfl) (s_k_in0 (by omega) hx ?_)
  first | refine zb_ifne h rfl (fun hc => ?_) (fun hc => ?_) | refine zc_ifne h rfl (fun hc => ?_) (fun hc => ?_)
  · exact absurd rfl hc
  · refine zi_iconst h rfl ?_
    refine zi_iret h rfl ?_
    exact hP
set_option maxRecDepth 20000 in
theorem s_m_parityGood_s {fl : Bool} {d : Nat} {f : tw_S} {P : tw_S → Option tw_A → Prop} {s : Nat} {g : tw_S} (hg : tw_up f 61 0 0 = g) (hs : s < 8) (h1 : p_om (g 65) 5 s 5 → P g (some (tw_I (-1)))) (h2 : ¬ p_om (g 65) 5 s 5 → p_xor (g 64) 5 s 5 = 0 → P g (some (tw_I 1))) (h3 : ¬ p_om (g 65) 5 s 5 → ¬ p_xor (g 64) 5 s 5 = 0 → P g (some (tw_I 0))) : tS fl (d + 2) 155 [tw_R 61, tw_I (nI s)] f P := by
  refine tw_Sp_of rfl rfl (Nat.le_of_ble_eq_true rfl) (fun X h => ?_)
  refine zi_aload_n h rfl rfl ?_
  refine zn_iconst h 0 rfl rfl ?_
  refine zp_int h rfl (by first | rfl | assumption) (by decide) rfl ?_
  refine tw_mem (g := g) (fun q j => by rw [← hg]; rfl) ?_
  have loop : ∀ n i : Nat, i + n = 5 → ¬ p_om (g 65) 5 s i → X 14 [some (tw_R 61), some (tw_I (nI s)), some (tw_I (p_xor (g 64) 5 s i)), some (tw_I (nI i))] [] tx_L0 g := by
    intro n
    induction n with
    | zero =>
      intro i hi he
      obtain rfl : i = 5 := by omega
      refine zi_iload_n h rfl rfl ?_
      refine zn_iconst h 5 rfl rfl ?_
      first | refine zn_icmpge h rfl (by omega) (by omega) (fun hc => ?_) (fun hc => ?_) | refine zc_icmpge h rfl (fun hc => ?_) (fun hc => ?_)
      · refine zi_iload_n h rfl rfl ?_
        refine zc_ifne h rfl (fun hc => ?_) (fun hc => ?_)
        · refine zn_iconst h 0 rfl rfl ?_
          refine zi_iret h rfl ?_
          exact h3 he hc
        · refine zn_iconst h 1 rfl rfl ?_
          refine zi_iret h rfl ?_
          exact h2 he hc
      · omega
    | succ n ih =>
      intro i hi he
      refine zi_iload_n h rfl rfl ?_
      refine zn_iconst h 5 rfl rfl ?_
      first | refine zn_icmpge h rfl (by omega) (by omega) (fun hc => ?_) (fun hc => ?_) | refine zc_icmpge h rfl (fun hc => ?_) (fun hc => ?_)
      · omega
      · refine zi_aload_n h rfl rfl ?_
        refine zi_iload_n h rfl rfl ?_
        refine zi_iload_n h rfl rfl ?_
        refine zk_V h [_, _] rfl (by first | rfl | assumption) rfl rfl (Nat.le_of_ble_eq_true rfl) (s_k_isMissing (by omega) hs ?_)
        first | refine zb_ifeq h rfl (fun hc => ?_) (fun hc => ?_) | refine zc_ifeq h rfl (fun hc => ?_) (fun hc => ?_)
        · have ih := ih (i + 1) (by omega) (p_om_succ he (Or.inr hc))
          rw [show p_xor (g 64) 5 s (i + 1) = p_xor (g 64) 5 s i ^^^ g 64 (8 * i + s) by simp [p_xor, Nat.mul_comm]; omega] at ih
          refine zi_iload_n h rfl rfl ?_
          refine zi_aload_n h rfl rfl ?_
          refine zg_ref h rfl (by first | rfl | assumption) (by decide) rfl rfl ?_
          refine zn_bipush h 8 rfl rfl ?_
          refine zi_iload_n h rfl rfl ?_
          first | refine zn_imul h rfl ?_ | refine zi_imul h rfl ?_
          refine zi_iload_n h rfl rfl ?_
          first | refine zn_iadd h rfl ?_ | refine zi_iadd h rfl ?_
          refine za_i h rfl (by first | rfl | assumption) rfl (by omega) (by decide) ?_
          refine zi_ixor h rfl ?_
          show X 34 _ _ _ _
          refine zi_istore_n h rfl (Nat.le_of_ble_eq_true rfl) ?_
          first | refine zn_iinc h 1 rfl rfl rfl ?_ | refine zi_iinc h rfl rfl ?_
          refine zi_goto h rfl ?_
          exact ih
        · refine zi_iconst h rfl ?_
          refine zi_iret h rfl ?_
          exact h1 ⟨i, by omega, by omega, hc⟩
  refine zi_iload_n h rfl rfl ?_
  refine zn_iconst h 0 rfl rfl ?_
  refine zn_bipush h 7 rfl rfl ?_
  refine zk_S h [_, _, _] rfl rfl rfl (Nat.le_of_ble_eq_true rfl) (s_k_in1 (by omega) (by omega) ?_)
  first | refine zb_ifne h rfl (fun hc => ?_) (fun hc => ?_) | refine zc_ifne h rfl (fun hc => ?_) (fun hc => ?_)
  · refine zn_iconst h 0 rfl rfl ?_
    refine zi_istore_n h rfl (Nat.le_of_ble_eq_true rfl) ?_
    refine zn_iconst h 0 rfl rfl ?_
    refine zi_istore_n h rfl (Nat.le_of_ble_eq_true rfl) ?_
    exact loop 5 0 (by omega) (fun ⟨o, ho, _⟩ => by omega)
  · exact absurd hc (by decide)
set_option maxRecDepth 20000 in
theorem s_m_onDisk_x {fl : Bool} {d : Nat} {f : tw_S} {P : tw_S → Option tw_A → Prop} {x y : Int32} {g : tw_S} (hg : tw_up f 61 0 0 = g) (hx : (x < 0 ∨ nI 5 ≤ x) ∨ (y < 0 ∨ nI 8 ≤ y) ∧ ∃ i, i < 5 ∧ x = nI i) (hP : P (tw_up g 61 0 1) (some (tw_I 0))) : tS fl (d + 2) 156 [tw_R 61, tw_I x, tw_I y] f P := by
  subst hg
  refine tw_Sp_of rfl rfl (Nat.le_of_ble_eq_true rfl) (fun X h => ?_)
  rcases hx with hx | ⟨hy, i, hi, rfl⟩
  · refine zi_aload_n h rfl rfl ?_
    refine zn_iconst h 0 rfl rfl ?_
    refine zp_int h rfl (by first | rfl | assumption) (by decide) rfl ?_
    refine zi_iload_n h rfl rfl ?_
    refine zn_iconst h 0 rfl rfl ?_
    refine zn_iconst h 4 rfl rfl ?_
    refine zk_S h [_, _, _] rfl rfl rfl (Nat.le_of_ble_eq_true rfl) (s_k_in0 (by omega) hx ?_)
    first | refine zb_ifeq h rfl (fun hc => ?_) (fun hc => ?_) | refine zc_ifeq h rfl (fun hc => ?_) (fun hc => ?_)
    · refine zi_aload_n h rfl rfl ?_
      refine zn_iconst h 1 rfl rfl ?_
      refine zp_int h rfl (by first | rfl | assumption) (by decide) rfl ?_
      refine zn_iconst h 0 rfl rfl ?_
      refine zi_iret h rfl ?_
      exact hP
    · exact absurd rfl hc
  · refine zi_aload_n h rfl rfl ?_
    refine zn_iconst h 0 rfl rfl ?_
    refine zp_int h rfl (by first | rfl | assumption) (by decide) rfl ?_
    refine zi_iload_n h rfl rfl ?_
    refine zn_iconst h 0 rfl rfl ?_
    refine zn_iconst h 4 rfl rfl ?_
    refine zk_S h [_, _, _] rfl rfl rfl (Nat.le_of_ble_eq_true rfl) (s_k_in1 (by omega) (by omega) ?_)
    first | refine zb_ifeq h rfl (fun hc => ?_) (fun hc => ?_) | refine zc_ifeq h rfl (fun hc => ?_) (fun hc => ?_)
    · exact absurd hc (by decide)
    · refine zi_iload_n h rfl rfl ?_
      refine zn_iconst h 0 rfl rfl ?_
      refine zn_bipush h 7 rfl rfl ?_
      refine zk_S h [_, _, _] rfl rfl rfl (Nat.le_of_ble_eq_true rfl) (s_k_in0 (by omega) hy ?_)
      first | refine zb_ifeq h rfl (fun hc => ?_) (fun hc => ?_) | refine zc_ifeq h rfl (fun hc => ?_) (fun hc => ?_)
      · refine zi_aload_n h rfl rfl ?_
        refine zn_iconst h 1 rfl rfl ?_
        refine zp_int h rfl (by first | rfl | assumption) (by decide) rfl ?_
        refine zn_iconst h 0 rfl rfl ?_
        refine zi_iret h rfl ?_
        exact hP
      · exact absurd rfl hc
set_option maxRecDepth 20000 in
theorem s_m_onDisk_i {fl : Bool} {d : Nat} {f : tw_S} {P : tw_S → Option tw_A → Prop} {i s : Nat} {g : tw_S} (hg : tw_up f 61 0 0 = g) (hi : i < 5) (hs : s < 8) (h1 : ¬ g 65 (i * 8 + s) = 0 → P (tw_up g 61 0 1) (some (tw_I 0))) (h2 : g 65 (i * 8 + s) = 0 → P g (some (tw_I (g 64 (i * 8 + s))))) : tS fl (d + 2) 156 [tw_R 61, tw_I (nI i), tw_I (nI s)] f P := by
  rw [Nat.mul_comm i 8] at h2
  refine tw_Sp_of rfl rfl (Nat.le_of_ble_eq_true rfl) (fun X h => ?_)
  refine zi_aload_n h rfl rfl ?_
  refine zn_iconst h 0 rfl rfl ?_
  refine zp_int h rfl (by first | rfl | assumption) (by decide) rfl ?_
  refine tw_mem (g := g) (fun q j => by rw [← hg]; rfl) ?_
  refine zi_iload_n h rfl rfl ?_
  refine zn_iconst h 0 rfl rfl ?_
  refine zn_iconst h 4 rfl rfl ?_
  refine zk_S h [_, _, _] rfl rfl rfl (Nat.le_of_ble_eq_true rfl) (s_k_in1 (by omega) (by omega) ?_)
  first | refine zb_ifeq h rfl (fun hc => ?_) (fun hc => ?_) | refine zc_ifeq h rfl (fun hc => ?_) (fun hc => ?_)
  · exact absurd hc (by decide)
  · refine zi_iload_n h rfl rfl ?_
    refine zn_iconst h 0 rfl rfl ?_
    refine zn_bipush h 7 rfl rfl ?_
    refine zk_S h [_, _, _] rfl rfl rfl (Nat.le_of_ble_eq_true rfl) (s_k_in1 (by omega) (by omega) ?_)
    first | refine zb_ifeq h rfl (fun hc => ?_) (fun hc => ?_) | refine zc_ifeq h rfl (fun hc => ?_) (fun hc => ?_)
    · exact absurd hc (by decide)
    · refine zi_aload_n h rfl rfl ?_
      refine zi_iload_n h rfl rfl ?_
      refine zi_iload_n h rfl rfl ?_
      refine zk_V h [_, _] rfl (by first | rfl | assumption) rfl rfl (Nat.le_of_ble_eq_true rfl) (s_k_isMissing hi hs ?_)
      first | refine zb_ifeq h rfl (fun hc => ?_) (fun hc => ?_) | refine zc_ifeq h rfl (fun hc => ?_) (fun hc => ?_)
      · refine zi_aload_n h rfl rfl ?_
        refine zg_ref h rfl (by first | rfl | assumption) (by decide) rfl rfl ?_
        refine zn_bipush h 8 rfl rfl ?_
        refine zi_iload_n h rfl rfl ?_
        first | refine zn_imul h rfl ?_ | refine zi_imul h rfl ?_
        refine zi_iload_n h rfl rfl ?_
        first | refine zn_iadd h rfl ?_ | refine zi_iadd h rfl ?_
        refine za_i h rfl (by first | rfl | assumption) rfl (by omega) (by decide) ?_
        refine zi_iret h rfl ?_
        exact h2 (by rw [Nat.mul_comm 8 i]; exact hc)
      · refine zi_aload_n h rfl rfl ?_
        refine zn_iconst h 1 rfl rfl ?_
        refine zp_int h rfl (by first | rfl | assumption) (by decide) rfl ?_
        refine zn_iconst h 0 rfl rfl ?_
        refine zi_iret h rfl ?_
        exact h1 hc
set_option maxRecDepth 20000 in
theorem s_m_ticket {fl : Bool} {d : Nat} {f : tw_S} {P : tw_S → Option tw_A → Prop} {x : Int32} {tm : Nat} {g : tw_S} (hg : tw_up f 61 0 0 = g) (ht : g 61 39 = nI tm) (ht2 : tm ≤ 200) (h1 : ∀ j, j < tm → x = nI j → P g (some (tw_I (g 99 j)))) (h2 : x < 0 ∨ nI tm ≤ x → P (tw_up g 61 0 1) (some (tw_I 0))) : tS fl (d + 2) 125 [tw_R 61, tw_I x] f P := by
  refine tw_Sp_of rfl rfl (Nat.le_of_ble_eq_true rfl) (fun X h => ?_)
  refine zi_aload_n h rfl rfl ?_
  refine zn_iconst h 0 rfl rfl ?_
  refine zp_int h rfl (by first | rfl | assumption) (by decide) rfl ?_
  refine tw_mem (g := g) (fun q j => by rw [← hg]; rfl) ?_
  refine zi_iload_n h rfl rfl ?_
  refine zn_iconst h 0 rfl rfl ?_
  refine zi_aload_n h rfl rfl ?_
  refine zg_nat h tm rfl (by first | rfl | assumption) (by decide) rfl ht ?_
  refine zn_iconst h 1 rfl rfl ?_
  refine zi_isub h rfl ?_
  refine zk_S h [_, _, _] rfl rfl rfl (Nat.le_of_ble_eq_true rfl) (s_k_inm1 (by omega) (fun j hj hx => ?_) (fun hx => ?_))
  · subst hx
    first | refine zb_ifne h rfl (fun hc => ?_) (fun hc => ?_) | refine zc_ifne h rfl (fun hc => ?_) (fun hc => ?_)
    · refine zi_aload_n h rfl rfl ?_
      refine zg_ref h rfl (by first | rfl | assumption) (by decide) rfl rfl ?_
      refine zi_iload_n h rfl rfl ?_
      refine za_i h rfl (by first | rfl | assumption) rfl (by omega) (by decide) ?_
      refine zi_iret h rfl ?_
      exact h1 j hj rfl
    · exact absurd hc (by decide)
  · first | refine zb_ifne h rfl (fun hc => ?_) (fun hc => ?_) | refine zc_ifne h rfl (fun hc => ?_) (fun hc => ?_)
    · exact absurd rfl hc
    · refine zi_aload_n h rfl rfl ?_
      refine zn_iconst h 1 rfl rfl ?_
      refine zp_int h rfl (by first | rfl | assumption) (by decide) rfl ?_
      refine zn_iconst h 0 rfl rfl ?_
      refine zi_iret h rfl ?_
      exact h2 hx
set_option maxRecDepth 20000 in
theorem s_m_value {fl : Bool} {d : Nat} {f : tw_S} {P : tw_S → Option tw_A → Prop} {x : Int32} {tm : Nat} {g : tw_S} (hg : tw_up f 61 0 0 = g) (ht : g 61 39 = nI tm) (ht2 : tm ≤ 200) (h1 : ∀ j, j < tm → x = nI j → P g (some (tw_I (g 100 j)))) (h2 : x < 0 ∨ nI tm ≤ x → P (tw_up g 61 0 1) (some (tw_I 0))) : tS fl (d + 2) 126 [tw_R 61, tw_I x] f P := by
  refine tw_Sp_of rfl rfl (Nat.le_of_ble_eq_true rfl) (fun X h => ?_)
  refine zi_aload_n h rfl rfl ?_
  refine zn_iconst h 0 rfl rfl ?_
  refine zp_int h rfl (by first | rfl | assumption) (by decide) rfl ?_
  refine tw_mem (g := g) (fun q j => by rw [← hg]; rfl) ?_
  refine zi_iload_n h rfl rfl ?_
  refine zn_iconst h 0 rfl rfl ?_
  refine zi_aload_n h rfl rfl ?_
  refine zg_nat h tm rfl (by first | rfl | assumption) (by decide) rfl ht ?_
  refine zn_iconst h 1 rfl rfl ?_
  refine zi_isub h rfl ?_
  refine zk_S h [_, _, _] rfl rfl rfl (Nat.le_of_ble_eq_true rfl) (s_k_inm1 (by omega) (fun j hj hx => ?_) (fun hx => ?_))
  · subst hx
    first | refine zb_ifne h rfl (fun hc => ?_) (fun hc => ?_) | refine zc_ifne h rfl (fun hc => ?_) (fun hc => ?_)
    · refine zi_aload_n h rfl rfl ?_
      refine zg_ref h rfl (by first | rfl | assumption) (by decide) rfl rfl ?_
      refine zi_iload_n h rfl rfl ?_
      refine za_i h rfl (by first | rfl | assumption) rfl (by omega) (by decide) ?_
      refine zi_iret h rfl ?_
      exact h1 j hj rfl
    · exact absurd hc (by decide)
  · first | refine zb_ifne h rfl (fun hc => ?_) (fun hc => ?_) | refine zc_ifne h rfl (fun hc => ?_) (fun hc => ?_)
    · exact absurd rfl hc
    · refine zi_aload_n h rfl rfl ?_
      refine zn_iconst h 1 rfl rfl ?_
      refine zp_int h rfl (by first | rfl | assumption) (by decide) rfl ?_
      refine zn_iconst h 0 rfl rfl ?_
      refine zi_iret h rfl ?_
      exact h2 hx
def k_lrm (f : tw_S) (k m e : Nat) : tw_S := fun c j => if 104 ≤ c ∧ c ≤ 107 ∧ k ≤ j ∧ j < e then f c (j + 1) else if c = 61 ∧ j = 45 then nI (m - 1) else f c j
set_option maxRecDepth 20000 in
theorem s_m_late_x {fl : Bool} {d : Nat} {f : tw_S} {P : tw_S → Option tw_A → Prop} {x : Int32} {lm : Nat} {g : tw_S} (hg : tw_up f 61 0 0 = g) (hl : g 61 45 = nI lm) (hl2 : lm ≤ 20) (hx : x < 0 ∨ nI lm ≤ x) (hP : P g (some (tw_I (-1)))) : tS fl (d + 2) 153 [tw_R 61, tw_I x] f P := by
  refine tw_Sp_of rfl rfl (Nat.le_of_ble_eq_true rfl) (fun X h => ?_)
  refine zi_aload_n h rfl rfl ?_
  refine zn_iconst h 0 rfl rfl ?_
  refine zp_int h rfl (by first | rfl | assumption) (by decide) rfl ?_
  refine tw_mem (g := g) (fun q j => by rw [← hg]; rfl) ?_
  refine zi_iload_n h rfl rfl ?_
  refine zn_iconst h 0 rfl rfl ?_
  refine zi_aload_n h rfl rfl ?_
  refine zg_nat h lm rfl (by first | rfl | assumption) (by decide) rfl hl ?_
  refine zn_iconst h 1 rfl rfl ?_
  refine zi_isub h rfl ?_
  refine zk_S h [_, _, _] rfl rfl rfl (Nat.le_of_ble_eq_true rfl) (s_k_inm1 (by omega) (fun j hj hx2 => ?_) (fun hx => ?_))
  · exfalso
    subst hx2
    rcases hx with u | u
    · exact absurd (nI_ge0 (n := j) (by omega)) (Int32.not_le.mpr u)
    · have := (nI_leI (a := lm) (b := j) (by omega) (by omega)).mp u
      omega
  · first | refine zb_ifne h rfl (fun hc => ?_) (fun hc => ?_) | refine zc_ifne h rfl (fun hc => ?_) (fun hc => ?_)
    · exact absurd rfl hc
    · refine zi_iconst h rfl ?_
      refine zi_iret h rfl ?_
      exact hP
set_option maxRecDepth 20000 in
theorem s_m_late_k {fl : Bool} {d : Nat} {f : tw_S} {P : tw_S → Option tw_A → Prop} {k lm i s : Nat} {g : tw_S} (hg : tw_up f 61 0 0 = g) (hl : g 61 45 = nI lm) (hl2 : lm ≤ 20) (hk : k < lm) (hi : g 104 k = nI i) (hi2 : i < 5) (hs : g 105 k = nI s) (hs2 : s < 8) (h1 : (¬ g 62 i = 0 ∧ g 63 i = g 107 k) → P (k_lrm (k_put g i s (g 106 k)) k lm (lm - 1)) (some (tw_I 1))) (h2 : ¬ (¬ g 62 i = 0 ∧ g 63 i = g 107 k) → P (k_lrm g k lm (lm - 1)) (some (tw_I 0))) : tS fl (d + 2) 153 [tw_R 61, tw_I (nI k)] f P := by
  refine tw_Sp_of rfl rfl (Nat.le_of_ble_eq_true rfl) (fun X h => ?_)
  have rest : ∀ (r : Int32) (w : tw_S), w 61 45 = nI lm → P (k_lrm w k lm (lm - 1)) (some (tw_I r)) → X 47 [some (tw_R 61), some (tw_I (nI k)), some (tw_I (nI i)), some (tw_I r), none] [] tx_L0 w := by
    intro r w hw hP
    have loop : ∀ n e : Nat, e + n = lm - 1 → k ≤ e → X 55 [some (tw_R 61), some (tw_I (nI k)), some (tw_I (nI i)), some (tw_I r), some (tw_I (nI e))] [] tx_L0 (k_lrm w k lm e) := by
      intro n
      induction n with
      | zero =>
        intro e he hke
        obtain rfl : e = lm - 1 := by omega
        refine zi_iload h rfl rfl ?_
        refine zi_aload_n h rfl rfl ?_
        refine zg_nat h (lm-1) rfl (by first | rfl | assumption) (by decide) rfl (by simp [k_lrm]) ?_
        first | refine zn_icmpge h rfl (by omega) (by omega) (fun hc => ?_) (fun hc => ?_) | refine zc_icmpge h rfl (fun hc => ?_) (fun hc => ?_)
        · refine zi_iload_n h rfl rfl ?_
          refine zi_iret h rfl ?_
          exact hP
        · omega
      | succ n ih =>
        intro e he hke
        have ih := ih (e + 1) (by omega) (by omega)
        unfold k_lrm at ih ⊢
        refine zi_iload h rfl rfl ?_
        refine zi_aload_n h rfl rfl ?_
        refine zg_nat h (lm-1) rfl (by first | rfl | assumption) (by decide) rfl (by simp) ?_
        first | refine zn_icmpge h rfl (by omega) (by omega) (fun hc => ?_) (fun hc => ?_) | refine zc_icmpge h rfl (fun hc => ?_) (fun hc => ?_)
        · omega
        · refine zi_aload_n h rfl rfl ?_
          refine zg_ref h rfl (by first | rfl | assumption) (by decide) rfl rfl ?_
          refine zi_iload h rfl rfl ?_
          refine zi_aload_n h rfl rfl ?_
          refine zg_ref h rfl (by first | rfl | assumption) (by decide) rfl rfl ?_
          refine zi_iload h rfl rfl ?_
          refine zn_iconst h 1 rfl rfl ?_
          first | refine zn_iadd h rfl ?_ | refine zi_iadd h rfl ?_
          refine za_i h rfl (by first | rfl | assumption) rfl (by omega) (by decide) ?_
          refine zs_i h rfl (by first | rfl | assumption) rfl (by omega) (by decide) ?_
          show X 69 _ _ _ _
          refine zi_aload_n h rfl rfl ?_
          refine zg_ref h rfl (by first | rfl | assumption) (by decide) rfl rfl ?_
          refine zi_iload h rfl rfl ?_
          refine zi_aload_n h rfl rfl ?_
          refine zg_ref h rfl (by first | rfl | assumption) (by decide) rfl rfl ?_
          refine zi_iload h rfl rfl ?_
          refine zn_iconst h 1 rfl rfl ?_
          first | refine zn_iadd h rfl ?_ | refine zi_iadd h rfl ?_
          refine za_i h rfl (by first | rfl | assumption) rfl (by omega) (by decide) ?_
          refine zs_i h rfl (by first | rfl | assumption) rfl (by omega) (by decide) ?_
          show X 79 _ _ _ _
          refine zi_aload_n h rfl rfl ?_
          refine zg_ref h rfl (by first | rfl | assumption) (by decide) rfl rfl ?_
          refine zi_iload h rfl rfl ?_
          refine zi_aload_n h rfl rfl ?_
          refine zg_ref h rfl (by first | rfl | assumption) (by decide) rfl rfl ?_
          refine zi_iload h rfl rfl ?_
          refine zn_iconst h 1 rfl rfl ?_
          first | refine zn_iadd h rfl ?_ | refine zi_iadd h rfl ?_
          refine za_i h rfl (by first | rfl | assumption) rfl (by omega) (by decide) ?_
          refine zs_i h rfl (by first | rfl | assumption) rfl (by omega) (by decide) ?_
          show X 89 _ _ _ _
          refine zi_aload_n h rfl rfl ?_
          refine zg_ref h rfl (by first | rfl | assumption) (by decide) rfl rfl ?_
          refine zi_iload h rfl rfl ?_
          refine zi_aload_n h rfl rfl ?_
          refine zg_ref h rfl (by first | rfl | assumption) (by decide) rfl rfl ?_
          refine zi_iload h rfl rfl ?_
          refine zn_iconst h 1 rfl rfl ?_
          first | refine zn_iadd h rfl ?_ | refine zi_iadd h rfl ?_
          refine za_i h rfl (by first | rfl | assumption) rfl (by omega) (by decide) ?_
          refine zs_i h rfl (by first | rfl | assumption) rfl (by omega) (by decide) ?_
          show X 99 _ _ _ _
          first | refine zn_iinc h 1 rfl rfl rfl ?_ | refine zi_iinc h rfl rfl ?_
          refine zi_goto h rfl ?_
          refine tw_mem (fun q j => ?_) (ih)
          try simp only [tw_up, tw_n0, tw_n1, tw_n2, false_and, and_false, true_and, and_true, false_or, or_false, if_true, if_false]
          (repeat' split) <;> first | rfl | omega | exact tw_cgf (by omega) (by omega)
    have l0 := loop (lm - 1 - k) k (by omega) (by omega)
    unfold k_lrm at l0
    refine zi_aload_n h rfl rfl ?_
    refine zi_dup h rfl rfl ?_
    refine zg_nat h lm rfl (by first | rfl | assumption) (by decide) rfl hw ?_
    refine zn_iconst h 1 rfl rfl ?_
    first | refine zn_isub h rfl (by omega) ?_ | refine zi_isub h rfl ?_
    refine zp_int h rfl (by first | rfl | assumption) (by decide) rfl ?_
    refine zi_iload_n h rfl rfl ?_
    refine zi_istore h rfl (Nat.le_of_ble_eq_true rfl) ?_
    refine tw_mem (fun q j => ?_) (l0)
    try simp only [tw_up, tw_n0, tw_n1, tw_n2, false_and, and_false, true_and, and_true, false_or, or_false, if_true, if_false]
    (repeat' split) <;> first | rfl | omega | exact tw_cgf (by omega) (by omega)
  refine zi_aload_n h rfl rfl ?_
  refine zn_iconst h 0 rfl rfl ?_
  refine zp_int h rfl (by first | rfl | assumption) (by decide) rfl ?_
  refine tw_mem (g := g) (fun q j => by rw [← hg]; rfl) ?_
  refine zi_iload_n h rfl rfl ?_
  refine zn_iconst h 0 rfl rfl ?_
  refine zi_aload_n h rfl rfl ?_
  refine zg_nat h lm rfl (by first | rfl | assumption) (by decide) rfl hl ?_
  refine zn_iconst h 1 rfl rfl ?_
  refine zi_isub h rfl ?_
  refine zk_S h [_, _, _] rfl rfl rfl (Nat.le_of_ble_eq_true rfl) (s_k_inm1 (by omega) (fun j hj hx2 => ?_) (fun hx => ?_))
  · first | refine zb_ifne h rfl (fun hc => ?_) (fun hc => ?_) | refine zc_ifne h rfl (fun hc => ?_) (fun hc => ?_)
    · refine zi_aload_n h rfl rfl ?_
      refine zg_ref h rfl (by first | rfl | assumption) (by decide) rfl rfl ?_
      refine zi_iload_n h rfl rfl ?_
      refine za_n h i rfl (by first | rfl | assumption) rfl (by omega) (by decide) hi ?_
      refine zi_istore_n h rfl (Nat.le_of_ble_eq_true rfl) ?_
      refine zn_iconst h 0 rfl rfl ?_
      refine zi_istore_n h rfl (Nat.le_of_ble_eq_true rfl) ?_
      refine zi_aload_n h rfl rfl ?_
      refine zg_ref h rfl (by first | rfl | assumption) (by decide) rfl rfl ?_
      refine zi_iload_n h rfl rfl ?_
      refine za_z h rfl (by first | rfl | assumption) rfl (by omega) (by decide) ?_
      first | refine zb_ifeq h rfl (fun hc => ?_) (fun hc => ?_) | refine zc_ifeq h rfl (fun hc => ?_) (fun hc => ?_)
      · exact rest 0 g hl (h2 (fun u => u.1 hc))
      · have c1 := hc
        refine zi_aload_n h rfl rfl ?_
        refine zg_ref h rfl (by first | rfl | assumption) (by decide) rfl rfl ?_
        refine zi_iload_n h rfl rfl ?_
        refine za_i h rfl (by first | rfl | assumption) rfl (by omega) (by decide) ?_
        refine zi_aload_n h rfl rfl ?_
        refine zg_ref h rfl (by first | rfl | assumption) (by decide) rfl rfl ?_
        refine zi_iload_n h rfl rfl ?_
        refine za_i h rfl (by first | rfl | assumption) rfl (by omega) (by decide) ?_
        refine zc_icmpne h rfl (fun hc => ?_) (fun hc => ?_)
        · exact rest 0 g hl (h2 (fun u => hc u.2))
        · refine zi_aload_n h rfl rfl ?_
          refine zi_iload_n h rfl rfl ?_
          refine zi_aload_n h rfl rfl ?_
          refine zg_ref h rfl (by first | rfl | assumption) (by decide) rfl rfl ?_
          refine zi_iload_n h rfl rfl ?_
          refine za_n h s rfl (by first | rfl | assumption) rfl (by omega) (by decide) hs ?_
          refine zi_aload_n h rfl rfl ?_
          refine zg_ref h rfl (by first | rfl | assumption) (by decide) rfl rfl ?_
          refine zi_iload_n h rfl rfl ?_
          refine za_i h rfl (by first | rfl | assumption) rfl (by omega) (by decide) ?_
          refine zk_V h [_, _, _] rfl (by first | rfl | assumption) rfl rfl (Nat.le_of_ble_eq_true rfl) (s_k_lands hi2 hs2 ?_)
          refine zn_iconst h 1 rfl rfl ?_
          refine zi_istore_n h rfl (Nat.le_of_ble_eq_true rfl) ?_
          exact rest 1 _ (by unfold k_put; rw [tw_off (by omega), tw_off (by omega)]; exact hl) (h1 ⟨c1, hc⟩)
    · exact absurd hc (by decide)
  · exfalso
    rcases hx with u | u
    · exact absurd (nI_ge0 (n := k) (by omega)) (Int32.not_le.mpr u)
    · have := (nI_leI (a := lm) (b := k) (by omega) (by omega)).mp u
      omega
def k_st (f : tw_S) (c j : Nat) : Int32 := match j with
  | 0 => nI (p_cd (fun j => f 73 (32 * c + j)) 8)
  | 1 => nI (p_cnt (fun j => f 74 (32 * c + j)) 32)
  | 2 => f 98 c
  | 3 => f 95 c
  | 4 => f 67 c
  | 5 => tw_nz (f 66 c)
  | 6 => tw_nz (f 68 c)
  | 7 => tw_nz (f 84 c)
  | 8 => tw_nz (f 94 c)
  | 9 => f 87 c
  | 10 => tw_nz (f 69 (2 * c)) + nI 2 * tw_nz (f 69 (2 * c + 1))
  | 11 => p_bits (fun s => f 77 (8 * c + s)) 8
  | 12 => p_bits (fun s => f 78 (8 * c + s)) 8
  | _ => p_bits (fun s => f 79 (8 * c + s)) 8
set_option maxRecDepth 20000 in
theorem s_m_state_x {fl : Bool} {d : Nat} {f : tw_S} {P : tw_S → Option tw_A → Prop} {x y : Int32} {g : tw_S} (hg : tw_up f 61 0 0 = g) (hx : (x < 0 ∨ nI 2 ≤ x) ∨ (y < 0 ∨ nI 14 ≤ y) ∧ ∃ i, i < 2 ∧ x = nI i) (hP : P g (some (tw_I (-1)))) : tS fl (d + 3) 160 [tw_R 61, tw_I x, tw_I y] f P := by
  subst hg
  refine tw_Sp_of rfl rfl (Nat.le_of_ble_eq_true rfl) (fun X h => ?_)
  rcases hx with hx | ⟨hy, i, hi, rfl⟩
  · refine zi_aload_n h rfl rfl ?_
    refine zn_iconst h 0 rfl rfl ?_
    refine zp_int h rfl (by first | rfl | assumption) (by decide) rfl ?_
    refine zi_iload_n h rfl rfl ?_
    refine zi_istore_n h rfl (Nat.le_of_ble_eq_true rfl) ?_
    refine zi_iload_n h rfl rfl ?_
    refine zn_iconst h 0 rfl rfl ?_
    refine zn_iconst h 1 rfl rfl ?_
    refine zk_S h [_, _, _] rfl rfl rfl (Nat.le_of_ble_eq_true rfl) (s_k_in0 (by omega) hx ?_)
    first | refine zb_ifeq h rfl (fun hc => ?_) (fun hc => ?_) | refine zc_ifeq h rfl (fun hc => ?_) (fun hc => ?_)
    · refine zi_iconst h rfl ?_
      refine zi_iret h rfl ?_
      exact hP
    · exact absurd rfl hc
  · refine zi_aload_n h rfl rfl ?_
    refine zn_iconst h 0 rfl rfl ?_
    refine zp_int h rfl (by first | rfl | assumption) (by decide) rfl ?_
    refine zi_iload_n h rfl rfl ?_
    refine zi_istore_n h rfl (Nat.le_of_ble_eq_true rfl) ?_
    refine zi_iload_n h rfl rfl ?_
    refine zn_iconst h 0 rfl rfl ?_
    refine zn_iconst h 1 rfl rfl ?_
    refine zk_S h [_, _, _] rfl rfl rfl (Nat.le_of_ble_eq_true rfl) (s_k_in1 (by omega) (by omega) ?_)
    first | refine zb_ifeq h rfl (fun hc => ?_) (fun hc => ?_) | refine zc_ifeq h rfl (fun hc => ?_) (fun hc => ?_)
    · exact absurd hc (by decide)
    · refine zi_iload_n h rfl rfl ?_
      refine zn_iconst h 0 rfl rfl ?_
      refine zn_bipush h 13 rfl rfl ?_
      refine zk_S h [_, _, _] rfl rfl rfl (Nat.le_of_ble_eq_true rfl) (s_k_in0 (by omega) hy ?_)
      first | refine zb_ifne h rfl (fun hc => ?_) (fun hc => ?_) | refine zc_ifne h rfl (fun hc => ?_) (fun hc => ?_)
      · exact absurd rfl hc
      · refine zi_iconst h rfl ?_
        refine zi_iret h rfl ?_
        exact hP
set_option maxRecDepth 20000 in
theorem s_m_state_j {fl : Bool} {d : Nat} {f : tw_S} {P : tw_S → Option tw_A → Prop} {c j : Nat} {g : tw_S} (hg : tw_up f 61 0 0 = g) (hc : c < 2) (hj : j < 14) (hP : P g (some (tw_I (k_st g c j)))) : tS fl (d + 3) 160 [tw_R 61, tw_I (nI c), tw_I (nI j)] f P := by
  have hcc := hc
  refine tw_Sp_of rfl rfl (Nat.le_of_ble_eq_true rfl) (fun X h => ?_)
  refine zi_aload_n h rfl rfl ?_
  refine zn_iconst h 0 rfl rfl ?_
  refine zp_int h rfl (by first | rfl | assumption) (by decide) rfl ?_
  refine tw_mem (g := g) (fun q j => by rw [← hg]; rfl) ?_
  refine zi_iload_n h rfl rfl ?_
  refine zi_istore_n h rfl (Nat.le_of_ble_eq_true rfl) ?_
  refine zi_iload_n h rfl rfl ?_
  refine zn_iconst h 0 rfl rfl ?_
  refine zn_iconst h 1 rfl rfl ?_
  refine zk_S h [_, _, _] rfl rfl rfl (Nat.le_of_ble_eq_true rfl) (s_k_in1 (by omega) (by omega) ?_)
  first | refine zb_ifeq h rfl (fun hc => ?_) (fun hc => ?_) | refine zc_ifeq h rfl (fun hc => ?_) (fun hc => ?_)
  · exact absurd hc (by decide)
  · refine zi_iload_n h rfl rfl ?_
    refine zn_iconst h 0 rfl rfl ?_
    refine zn_bipush h 13 rfl rfl ?_
    refine zk_S h [_, _, _] rfl rfl rfl (Nat.le_of_ble_eq_true rfl) (s_k_in1 (by omega) (by omega) ?_)
    first | refine zb_ifne h rfl (fun hc => ?_) (fun hc => ?_) | refine zc_ifne h rfl (fun hc => ?_) (fun hc => ?_)
    · refine zi_iload_n h rfl rfl ?_
      refine zc_ifne h rfl (fun hc => ?_) (fun hc => ?_)
      · have hj0 : j ≠ 0 := fun u => hc (by rw [u]; rfl)
        refine zi_iload_n h rfl rfl ?_
        refine zn_iconst h 1 rfl rfl ?_
        first | refine zn_icmpne h rfl (by omega) (by omega) (fun hc => ?_) (fun hc => ?_) | refine zc_icmpne h rfl (fun hc => ?_) (fun hc => ?_)
        · refine zi_iload_n h rfl rfl ?_
          refine zn_iconst h 2 rfl rfl ?_
          first | refine zn_icmpne h rfl (by omega) (by omega) (fun hc => ?_) (fun hc => ?_) | refine zc_icmpne h rfl (fun hc => ?_) (fun hc => ?_)
          · refine zi_iload_n h rfl rfl ?_
            refine zn_iconst h 3 rfl rfl ?_
            first | refine zn_icmpne h rfl (by omega) (by omega) (fun hc => ?_) (fun hc => ?_) | refine zc_icmpne h rfl (fun hc => ?_) (fun hc => ?_)
            · refine zi_iload_n h rfl rfl ?_
              refine zn_iconst h 4 rfl rfl ?_
              first | refine zn_icmpne h rfl (by omega) (by omega) (fun hc => ?_) (fun hc => ?_) | refine zc_icmpne h rfl (fun hc => ?_) (fun hc => ?_)
              · refine zi_iload_n h rfl rfl ?_
                refine zn_iconst h 5 rfl rfl ?_
                first | refine zn_icmpne h rfl (by omega) (by omega) (fun hc => ?_) (fun hc => ?_) | refine zc_icmpne h rfl (fun hc => ?_) (fun hc => ?_)
                · refine zi_iload_n h rfl rfl ?_
                  refine zn_bipush h 6 rfl rfl ?_
                  first | refine zn_icmpne h rfl (by omega) (by omega) (fun hc => ?_) (fun hc => ?_) | refine zc_icmpne h rfl (fun hc => ?_) (fun hc => ?_)
                  · refine zi_iload_n h rfl rfl ?_
                    refine zn_bipush h 7 rfl rfl ?_
                    first | refine zn_icmpne h rfl (by omega) (by omega) (fun hc => ?_) (fun hc => ?_) | refine zc_icmpne h rfl (fun hc => ?_) (fun hc => ?_)
                    · refine zi_iload_n h rfl rfl ?_
                      refine zn_bipush h 8 rfl rfl ?_
                      first | refine zn_icmpne h rfl (by omega) (by omega) (fun hc => ?_) (fun hc => ?_) | refine zc_icmpne h rfl (fun hc => ?_) (fun hc => ?_)
                      · refine zi_iload_n h rfl rfl ?_
                        refine zn_bipush h 9 rfl rfl ?_
                        first | refine zn_icmpne h rfl (by omega) (by omega) (fun hc => ?_) (fun hc => ?_) | refine zc_icmpne h rfl (fun hc => ?_) (fun hc => ?_)
                        · refine zi_iload_n h rfl rfl ?_
                          refine zn_bipush h 10 rfl rfl ?_
                          first | refine zn_icmpne h rfl (by omega) (by omega) (fun hc => ?_) (fun hc => ?_) | refine zc_icmpne h rfl (fun hc => ?_) (fun hc => ?_)
                          · refine zi_iload_n h rfl rfl ?_
                            refine zn_bipush h 11 rfl rfl ?_
                            first | refine zn_icmpne h rfl (by omega) (by omega) (fun hc => ?_) (fun hc => ?_) | refine zc_icmpne h rfl (fun hc => ?_) (fun hc => ?_)
                            · refine zi_iload_n h rfl rfl ?_
                              refine zn_bipush h 12 rfl rfl ?_
                              first | refine zn_icmpne h rfl (by omega) (by omega) (fun hc => ?_) (fun hc => ?_) | refine zc_icmpne h rfl (fun hc => ?_) (fun hc => ?_)
                              · obtain rfl : j = 13 := by omega
                                refine zi_aload_n h rfl rfl ?_
                                refine zi_aload_n h rfl rfl ?_
                                refine zg_ref h rfl (by first | rfl | assumption) (by decide) rfl rfl ?_
                                refine zi_iload_n h rfl rfl ?_
                                refine zk_V h [_, _] rfl (by first | rfl | assumption) rfl rfl (Nat.le_of_ble_eq_true rfl) (s_k_bits hcc (Or.inr (Or.inr rfl)) ?_)
                                refine zi_iret h rfl ?_
                                exact hP
                              · subst hc
                                refine zi_aload_n h rfl rfl ?_
                                refine zi_aload_n h rfl rfl ?_
                                refine zg_ref h rfl (by first | rfl | assumption) (by decide) rfl rfl ?_
                                refine zi_iload_n h rfl rfl ?_
                                refine zk_V h [_, _] rfl (by first | rfl | assumption) rfl rfl (Nat.le_of_ble_eq_true rfl) (s_k_bits hcc (Or.inr (Or.inl rfl)) ?_)
                                refine zi_iret h rfl ?_
                                exact hP
                            · subst hc
                              refine zi_aload_n h rfl rfl ?_
                              refine zi_aload_n h rfl rfl ?_
                              refine zg_ref h rfl (by first | rfl | assumption) (by decide) rfl rfl ?_
                              refine zi_iload_n h rfl rfl ?_
                              refine zk_V h [_, _] rfl (by first | rfl | assumption) rfl rfl (Nat.le_of_ble_eq_true rfl) (s_k_bits hcc (Or.inl rfl) ?_)
                              refine zi_iret h rfl ?_
                              exact hP
                          · subst hc
                            refine zi_aload_n h rfl rfl ?_
                            refine zg_ref h rfl (by first | rfl | assumption) (by decide) rfl rfl ?_
                            refine zn_iconst h 2 rfl rfl ?_
                            refine zi_iload_n h rfl rfl ?_
                            first | refine zn_imul h rfl ?_ | refine zi_imul h rfl ?_
                            refine za_z h rfl (by first | rfl | assumption) rfl (by omega) (by decide) ?_
                            refine zk_S h [_] rfl rfl rfl (Nat.le_of_ble_eq_true rfl) (s_k_one ?_)
                            refine zn_iconst h 2 rfl rfl ?_
                            refine zi_aload_n h rfl rfl ?_
                            refine zg_ref h rfl (by first | rfl | assumption) (by decide) rfl rfl ?_
                            refine zn_iconst h 2 rfl rfl ?_
                            refine zi_iload_n h rfl rfl ?_
                            first | refine zn_imul h rfl ?_ | refine zi_imul h rfl ?_
                            refine zn_iconst h 1 rfl rfl ?_
                            first | refine zn_iadd h rfl ?_ | refine zi_iadd h rfl ?_
                            refine za_z h rfl (by first | rfl | assumption) rfl (by omega) (by decide) ?_
                            refine zk_S h [_] rfl rfl rfl (Nat.le_of_ble_eq_true rfl) (s_k_one ?_)
                            first | refine zn_imul h rfl ?_ | refine zi_imul h rfl ?_
                            first | refine zn_iadd h rfl ?_ | refine zi_iadd h rfl ?_
                            refine zi_iret h rfl ?_
                            exact hP
                        · subst hc
                          refine zi_aload_n h rfl rfl ?_
                          refine zg_ref h rfl (by first | rfl | assumption) (by decide) rfl rfl ?_
                          refine zi_iload_n h rfl rfl ?_
                          refine za_i h rfl (by first | rfl | assumption) rfl (by omega) (by decide) ?_
                          refine zi_iret h rfl ?_
                          exact hP
                      · subst hc
                        refine zi_aload_n h rfl rfl ?_
                        refine zg_ref h rfl (by first | rfl | assumption) (by decide) rfl rfl ?_
                        refine zi_iload_n h rfl rfl ?_
                        refine za_z h rfl (by first | rfl | assumption) rfl (by omega) (by decide) ?_
                        refine zk_S h [_] rfl rfl rfl (Nat.le_of_ble_eq_true rfl) (s_k_one ?_)
                        refine zi_iret h rfl ?_
                        exact hP
                    · subst hc
                      refine zi_aload_n h rfl rfl ?_
                      refine zg_ref h rfl (by first | rfl | assumption) (by decide) rfl rfl ?_
                      refine zi_iload_n h rfl rfl ?_
                      refine za_z h rfl (by first | rfl | assumption) rfl (by omega) (by decide) ?_
                      refine zk_S h [_] rfl rfl rfl (Nat.le_of_ble_eq_true rfl) (s_k_one ?_)
                      refine zi_iret h rfl ?_
                      exact hP
                  · subst hc
                    refine zi_aload_n h rfl rfl ?_
                    refine zg_ref h rfl (by first | rfl | assumption) (by decide) rfl rfl ?_
                    refine zi_iload_n h rfl rfl ?_
                    refine za_z h rfl (by first | rfl | assumption) rfl (by omega) (by decide) ?_
                    refine zk_S h [_] rfl rfl rfl (Nat.le_of_ble_eq_true rfl) (s_k_one ?_)
                    refine zi_iret h rfl ?_
                    exact hP
                · subst hc
                  refine zi_aload_n h rfl rfl ?_
                  refine zg_ref h rfl (by first | rfl | assumption) (by decide) rfl rfl ?_
                  refine zi_iload_n h rfl rfl ?_
                  refine za_z h rfl (by first | rfl | assumption) rfl (by omega) (by decide) ?_
                  refine zk_S h [_] rfl rfl rfl (Nat.le_of_ble_eq_true rfl) (s_k_one ?_)
                  refine zi_iret h rfl ?_
                  exact hP
              · subst hc
                refine zi_aload_n h rfl rfl ?_
                refine zg_ref h rfl (by first | rfl | assumption) (by decide) rfl rfl ?_
                refine zi_iload_n h rfl rfl ?_
                refine za_i h rfl (by first | rfl | assumption) rfl (by omega) (by decide) ?_
                refine zi_iret h rfl ?_
                exact hP
            · subst hc
              refine zi_aload_n h rfl rfl ?_
              refine zg_ref h rfl (by first | rfl | assumption) (by decide) rfl rfl ?_
              refine zi_iload_n h rfl rfl ?_
              refine za_i h rfl (by first | rfl | assumption) rfl (by omega) (by decide) ?_
              refine zi_iret h rfl ?_
              exact hP
          · subst hc
            refine zi_aload_n h rfl rfl ?_
            refine zg_ref h rfl (by first | rfl | assumption) (by decide) rfl rfl ?_
            refine zi_iload_n h rfl rfl ?_
            refine za_i h rfl (by first | rfl | assumption) rfl (by omega) (by decide) ?_
            refine zi_iret h rfl ?_
            exact hP
        · subst hc
          have loop : ∀ n i : Nat, i + n = 32 → X 30 [some (tw_R 61), some (tw_I (nI c)), some (tw_I (nI 1)), some (tw_I (nI c)), some (tw_I (nI (p_cnt (fun j => g 74 (32 * c + j)) i))), some (tw_I (nI i))] [] tx_L0 g := by
            intro n
            induction n with
            | zero =>
              intro i hi
              obtain rfl : i = 32 := by omega
              refine zi_iload h rfl rfl ?_
              refine zn_bipush h 32 rfl rfl ?_
              first | refine zn_icmpge h rfl (by omega) (by omega) (fun hc => ?_) (fun hc => ?_) | refine zc_icmpge h rfl (fun hc => ?_) (fun hc => ?_)
              · refine zi_iload h rfl rfl ?_
                refine zi_iret h rfl ?_
                exact hP
              · omega
            | succ n ih =>
              intro i hi
              have ih := ih (i + 1) (by omega)
              refine zi_iload h rfl rfl ?_
              refine zn_bipush h 32 rfl rfl ?_
              first | refine zn_icmpge h rfl (by omega) (by omega) (fun hc => ?_) (fun hc => ?_) | refine zc_icmpge h rfl (fun hc => ?_) (fun hc => ?_)
              · omega
              · refine zi_aload_n h rfl rfl ?_
                refine zg_ref h rfl (by first | rfl | assumption) (by decide) rfl rfl ?_
                refine zn_bipush h 32 rfl rfl ?_
                refine zi_iload_n h rfl rfl ?_
                first | refine zn_imul h rfl ?_ | refine zi_imul h rfl ?_
                refine zi_iload h rfl rfl ?_
                first | refine zn_iadd h rfl ?_ | refine zi_iadd h rfl ?_
                refine za_z h rfl (by first | rfl | assumption) rfl (by omega) (by decide) ?_
                first | refine zb_ifeq h rfl (fun hc => ?_) (fun hc => ?_) | refine zc_ifeq h rfl (fun hc => ?_) (fun hc => ?_)
                · rw [show p_cnt (fun j => g 74 (32 * c + j)) (i + 1) = p_cnt (fun j => g 74 (32 * c + j)) i by simp [p_cnt, hc]] at ih
                  first | refine zn_iinc h 1 rfl rfl rfl ?_ | refine zi_iinc h rfl rfl ?_
                  refine zi_goto h rfl ?_
                  exact ih
                · rw [show p_cnt (fun j => g 74 (32 * c + j)) (i + 1) = p_cnt (fun j => g 74 (32 * c + j)) i + 1 by simp [p_cnt, hc]] at ih
                  first | refine zn_iinc h 1 rfl rfl rfl ?_ | refine zi_iinc h rfl rfl ?_
                  first | refine zn_iinc h 1 rfl rfl rfl ?_ | refine zi_iinc h rfl rfl ?_
                  refine zi_goto h rfl ?_
                  exact ih
          refine zn_iconst h 0 rfl rfl ?_
          refine zi_istore h rfl (Nat.le_of_ble_eq_true rfl) ?_
          refine zn_iconst h 0 rfl rfl ?_
          refine zi_istore h rfl (Nat.le_of_ble_eq_true rfl) ?_
          exact loop 32 0 (by omega)
      · have hj0 : j = 0 := (nI_zero (by omega)).mp hc
        subst hj0
        refine zi_aload_n h rfl rfl ?_
        refine zi_iload_n h rfl rfl ?_
        refine zk_V h [_] rfl (by first | rfl | assumption) rfl rfl (Nat.le_of_ble_eq_true rfl) (s_k_dirtyAll hcc ?_)
        refine zi_iret h rfl ?_
        exact hP
    · exact absurd hc (by decide)
