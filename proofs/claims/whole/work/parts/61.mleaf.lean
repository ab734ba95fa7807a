/-! The reference: its small methods. -/
set_option maxRecDepth 20000 in
theorem s_k_thrown {fl : Bool} {d : Nat} {f : tw_S} {P : tw_S → Option tw_A → Prop} (hP : P f (some (tw_I (f 61 0)))) : tS fl (d + 1) 110 [tw_R 61] f P := by
  refine tw_Sp_of rfl rfl (Nat.le_of_ble_eq_true rfl) (fun X h => ?_)
  refine zi_aload_n h rfl rfl ?_
  refine zg_int h rfl (by first | rfl | assumption) (by decide) rfl ?_
  refine zi_iret h rfl ?_
  exact hP
set_option maxRecDepth 20000 in
theorem s_k_in1 {fl : Bool} {d : Nat} {f : tw_S} {P : tw_S → Option tw_A → Prop} {c h1 : Nat} (hc : c ≤ h1) (hh : h1 < 1000) (hP : P f (some (tw_I 1))) : tS fl (d + 1) 111 [tw_I (nI c), tw_I (nI 0), tw_I (nI h1)] f P := by
  refine tw_Sp_of rfl rfl (Nat.le_of_ble_eq_true rfl) (fun X h => ?_)
  have hcc := hc
  refine zi_iload_n h rfl rfl ?_
  refine zi_iload_n h rfl rfl ?_
  first | refine zn_icmplt h rfl (by omega) (by omega) (fun hc => ?_) (fun hc => ?_) | refine zc_icmplt h rfl (fun hc => ?_) (fun hc => ?_)
  · omega
  · refine zi_iload_n h rfl rfl ?_
    refine zi_iload_n h rfl rfl ?_
    first | refine zn_icmpgt h rfl (by omega) (by omega) (fun hc => ?_) (fun hc => ?_) | refine zc_icmpgt h rfl (fun hc => ?_) (fun hc => ?_)
    · omega
    · refine zn_iconst h 1 rfl rfl ?_
      refine zi_goto h rfl ?_
      refine zi_zret h rfl (by first | exact Or.inl rfl | exact Or.inr rfl | exact tw_nz_01 _ | assumption) ?_
      exact hP
set_option maxRecDepth 20000 in
theorem s_k_in0 {fl : Bool} {d : Nat} {f : tw_S} {P : tw_S → Option tw_A → Prop} {x : Int32} {h1 : Nat} (hh : h1 < 1000) (hx : x < 0 ∨ nI (h1 + 1) ≤ x) (hP : P f (some (tw_I 0))) : tS fl (d + 1) 111 [tw_I x, tw_I (nI 0), tw_I (nI h1)] f P := by
  refine tw_Sp_of rfl rfl (Nat.le_of_ble_eq_true rfl) (fun X h => ?_)
  refine zi_iload_n h rfl rfl ?_
  refine zi_iload_n h rfl rfl ?_
  refine zc_icmplt h rfl (fun hc => ?_) (fun hc => ?_)
  · refine zn_iconst h 0 rfl rfl ?_
    refine zi_zret h rfl (by first | exact Or.inl rfl | exact Or.inr rfl | exact tw_nz_01 _ | assumption) ?_
    exact hP
  · have hc0 := hc
    refine zi_iload_n h rfl rfl ?_
    refine zi_iload_n h rfl rfl ?_
    refine zc_icmpgt h rfl (fun hc => ?_) (fun hc => ?_)
    · refine zn_iconst h 0 rfl rfl ?_
      refine zi_zret h rfl (by first | exact Or.inl rfl | exact Or.inr rfl | exact tw_nz_01 _ | assumption) ?_
      exact hP
    · exfalso
      rcases hx with g | g
      · exact hc0 g
      · exact hc ((nI_lt_iff (by omega)).mpr g)
-- 'in' with an upper bound that is a number less one (tickets, lates): both ways
set_option maxRecDepth 20000 in
theorem s_k_inm1 {fl : Bool} {d : Nat} {f : tw_S} {P : tw_S → Option tw_A → Prop} {x : Int32} {m : Nat} (hm : m < 1000) (h1 : ∀ j, j < m → x = nI j → P f (some (tw_I 1))) (h2 : x < 0 ∨ nI m ≤ x → P f (some (tw_I 0))) : tS fl (d + 1) 111 [tw_I x, tw_I (nI 0), tw_I (nI m - nI 1)] f P := by
  refine tw_Sp_of rfl rfl (Nat.le_of_ble_eq_true rfl) (fun X h => ?_)
  have key : nI m - nI 1 < x ↔ nI m ≤ x := by
    rw [Int32.lt_iff_toInt_lt, Int32.le_iff_toInt_le, nI_toInt (by omega), pk_sub_toInt (by omega) (by omega)]
    omega
  refine zi_iload_n h rfl rfl ?_
  refine zi_iload_n h rfl rfl ?_
  refine zc_icmplt h rfl (fun hc => ?_) (fun hc => ?_)
  · refine zn_iconst h 0 rfl rfl ?_
    refine zi_zret h rfl (by first | exact Or.inl rfl | exact Or.inr rfl | exact tw_nz_01 _ | assumption) ?_
    exact h2 (Or.inl hc)
  · have hc0 := hc
    refine zi_iload_n h rfl rfl ?_
    refine zi_iload_n h rfl rfl ?_
    refine zc_icmpgt h rfl (fun hc => ?_) (fun hc => ?_)
    · refine zn_iconst h 0 rfl rfl ?_
      refine zi_zret h rfl (by first | exact Or.inl rfl | exact Or.inr rfl | exact tw_nz_01 _ | assumption) ?_
      exact h2 (Or.inr (key.mp hc))
    · refine zn_iconst h 1 rfl rfl ?_
      refine zi_goto h rfl ?_
      refine zi_zret h rfl (by first | exact Or.inl rfl | exact Or.inr rfl | exact tw_nz_01 _ | assumption) ?_
      obtain g | g | ⟨j, g1, g2⟩ := pk_ix x (n := m) (by omega)
      · exact absurd g hc0
      · exact absurd (key.mpr g) hc
      · exact h1 j g1 g2
set_option maxRecDepth 20000 in
theorem s_k_tick {fl : Bool} {d : Nat} {f : tw_S} {P : tw_S → Option tw_A → Prop} {m : Nat} {a b v : Int32} (hm : f 61 39 = nI m) (hm2 : m < 200) (hP : P (k_tick f a b v) (some (tw_I (nI m)))) : tS fl (d + 1) 112 [tw_R 61, tw_I a, tw_I b, tw_I v] f P := by
  refine tw_Sp_of rfl rfl (Nat.le_of_ble_eq_true rfl) (fun X h => ?_)
  rw [k_tick, hm, nI_clamp (by omega), nI_1] at hP
  refine zi_aload_n h rfl rfl ?_
  refine zg_ref h rfl (by first | rfl | assumption) (by decide) rfl rfl ?_
  refine zi_aload_n h rfl rfl ?_
  refine zg_nat h m rfl (by first | rfl | assumption) (by decide) rfl hm ?_
  refine zn_iconst h 2 rfl rfl ?_
  refine zs_i h rfl (by first | rfl | assumption) rfl (by omega) (by decide) ?_
  refine zi_aload_n h rfl rfl ?_
  refine zg_ref h rfl (by first | rfl | assumption) (by decide) rfl rfl ?_
  refine zi_aload_n h rfl rfl ?_
  refine zg_nat h m rfl (by first | rfl | assumption) (by decide) rfl (by simp [tw_up, hm]) ?_
  refine zi_iload_n h rfl rfl ?_
  refine zs_i h rfl (by first | rfl | assumption) rfl (by omega) (by decide) ?_
  refine zi_aload_n h rfl rfl ?_
  refine zg_ref h rfl (by first | rfl | assumption) (by decide) rfl rfl ?_
  refine zi_aload_n h rfl rfl ?_
  refine zg_nat h m rfl (by first | rfl | assumption) (by decide) rfl (by simp [tw_up, hm]) ?_
  refine zi_iload_n h rfl rfl ?_
  refine zs_i h rfl (by first | rfl | assumption) rfl (by omega) (by decide) ?_
  refine zi_aload_n h rfl rfl ?_
  refine zg_ref h rfl (by first | rfl | assumption) (by decide) rfl rfl ?_
  refine zi_aload_n h rfl rfl ?_
  refine zg_nat h m rfl (by first | rfl | assumption) (by decide) rfl (by simp [tw_up, hm]) ?_
  refine zi_iload_n h rfl rfl ?_
  refine zs_i h rfl (by first | rfl | assumption) rfl (by omega) (by decide) ?_
  refine zi_aload_n h rfl rfl ?_
  refine zg_ref h rfl (by first | rfl | assumption) (by decide) rfl rfl ?_
  refine zi_aload_n h rfl rfl ?_
  refine zg_nat h m rfl (by first | rfl | assumption) (by decide) rfl (by simp [tw_up, hm]) ?_
  refine zn_iconst h 0 rfl rfl ?_
  refine zs_i h rfl (by first | rfl | assumption) rfl (by omega) (by decide) ?_
  refine zi_aload_n h rfl rfl ?_
  refine zi_dup h rfl rfl ?_
  refine zg_nat h m rfl (by first | rfl | assumption) (by decide) rfl (by simp [tw_up, hm]) ?_
  refine zn_iconst h 1 rfl rfl ?_
  first | refine zn_iadd h rfl ?_ | refine zi_iadd h rfl ?_
  refine zp_int h rfl (by first | rfl | assumption) (by decide) rfl ?_
  refine zi_aload_n h rfl rfl ?_
  refine zg_nat h (m+1) rfl (by first | rfl | assumption) (by decide) rfl (by simp [tw_up]) ?_
  refine zn_iconst h 1 rfl rfl ?_
  first | refine zn_isub h rfl (by omega) ?_ | refine zi_isub h rfl ?_
  refine zi_iret h rfl ?_
  exact hP
set_option maxRecDepth 20000 in
theorem s_k_keep0 {fl : Bool} {d : Nat} {f : tw_S} {P : tw_S → Option tw_A → Prop} {c b : Nat} {v : Int32} (hc : c < 2) (hb : b < 32) (hP : P (k_keep0 f c b v) none) : tS fl (d + 1) 113 [tw_R 61, tw_I (nI c), tw_I (nI b), tw_I v, tw_I 0] f P := by
  refine tw_Sp_of rfl rfl (Nat.le_of_ble_eq_true rfl) (fun X h => ?_)
  have hcc := hc
  refine zn_bipush h 32 rfl rfl ?_
  refine zi_iload_n h rfl rfl ?_
  first | refine zn_imul h rfl ?_ | refine zi_imul h rfl ?_
  refine zi_iload_n h rfl rfl ?_
  first | refine zn_iadd h rfl ?_ | refine zi_iadd h rfl ?_
  refine zi_istore h rfl (Nat.le_of_ble_eq_true rfl) ?_
  refine zi_aload_n h rfl rfl ?_
  refine zg_ref h rfl (by first | rfl | assumption) (by decide) rfl rfl ?_
  refine zi_iload h rfl rfl ?_
  refine zn_iconst h 1 rfl rfl ?_
  show X 10 _ _ _ _
  refine zs_z h rfl (by first | rfl | assumption) rfl (by omega) (by decide) (by first | exact Or.inl rfl | exact Or.inr rfl | exact tw_nz_01 _ | assumption) ?_
  refine zi_aload_n h rfl rfl ?_
  refine zg_ref h rfl (by first | rfl | assumption) (by decide) rfl rfl ?_
  refine zi_iload h rfl rfl ?_
  refine zi_iload_n h rfl rfl ?_
  refine zs_i h rfl (by first | rfl | assumption) rfl (by omega) (by decide) ?_
  refine zi_aload_n h rfl rfl ?_
  refine zg_ref h rfl (by first | rfl | assumption) (by decide) rfl rfl ?_
  refine zi_iload h rfl rfl ?_
  refine zi_iload h rfl rfl ?_
  show X 20 _ _ _ _
  refine zs_z h rfl (by first | rfl | assumption) rfl (by omega) (by decide) (by first | exact Or.inl rfl | exact Or.inr rfl | exact tw_nz_01 _ | assumption) ?_
  refine zi_aload_n h rfl rfl ?_
  refine zg_ref h rfl (by first | rfl | assumption) (by decide) rfl rfl ?_
  refine zi_iload h rfl rfl ?_
  refine zn_iconst h 0 rfl rfl ?_
  refine zs_i h rfl (by first | rfl | assumption) rfl (by omega) (by decide) ?_
  refine zi_iload h rfl rfl ?_
  first | refine zb_ifeq h rfl (fun hc => ?_) (fun hc => ?_) | refine zc_ifeq h rfl (fun hc => ?_) (fun hc => ?_)
  · refine zi_vret h rfl ?_
    exact hP
  · exact absurd rfl hc
set_option maxRecDepth 20000 in
theorem s_k_keep1 {fl : Bool} {d : Nat} {f : tw_S} {P : tw_S → Option tw_A → Prop} {c b : Nat} {v : Int32} (hc : c < 2) (hb : b < 32) (hP : P (k_keep1 f c b v) none) : tS fl (d + 1) 113 [tw_R 61, tw_I (nI c), tw_I (nI b), tw_I v, tw_I 1] f P := by
  refine tw_Sp_of rfl rfl (Nat.le_of_ble_eq_true rfl) (fun X h => ?_)
  have hcc := hc
  refine zn_bipush h 32 rfl rfl ?_
  refine zi_iload_n h rfl rfl ?_
  first | refine zn_imul h rfl ?_ | refine zi_imul h rfl ?_
  refine zi_iload_n h rfl rfl ?_
  first | refine zn_iadd h rfl ?_ | refine zi_iadd h rfl ?_
  refine zi_istore h rfl (Nat.le_of_ble_eq_true rfl) ?_
  refine zi_aload_n h rfl rfl ?_
  refine zg_ref h rfl (by first | rfl | assumption) (by decide) rfl rfl ?_
  refine zi_iload h rfl rfl ?_
  refine zn_iconst h 1 rfl rfl ?_
  show X 10 _ _ _ _
  refine zs_z h rfl (by first | rfl | assumption) rfl (by omega) (by decide) (by first | exact Or.inl rfl | exact Or.inr rfl | exact tw_nz_01 _ | assumption) ?_
  refine zi_aload_n h rfl rfl ?_
  refine zg_ref h rfl (by first | rfl | assumption) (by decide) rfl rfl ?_
  refine zi_iload h rfl rfl ?_
  refine zi_iload_n h rfl rfl ?_
  refine zs_i h rfl (by first | rfl | assumption) rfl (by omega) (by decide) ?_
  refine zi_aload_n h rfl rfl ?_
  refine zg_ref h rfl (by first | rfl | assumption) (by decide) rfl rfl ?_
  refine zi_iload h rfl rfl ?_
  refine zi_iload h rfl rfl ?_
  show X 20 _ _ _ _
  refine zs_z h rfl (by first | rfl | assumption) rfl (by omega) (by decide) (by first | exact Or.inl rfl | exact Or.inr rfl | exact tw_nz_01 _ | assumption) ?_
  refine zi_aload_n h rfl rfl ?_
  refine zg_ref h rfl (by first | rfl | assumption) (by decide) rfl rfl ?_
  refine zi_iload h rfl rfl ?_
  refine zn_iconst h 0 rfl rfl ?_
  refine zs_i h rfl (by first | rfl | assumption) rfl (by omega) (by decide) ?_
  refine zi_iload h rfl rfl ?_
  first | refine zb_ifeq h rfl (fun hc => ?_) (fun hc => ?_) | refine zc_ifeq h rfl (fun hc => ?_) (fun hc => ?_)
  · exact absurd hc (by decide)
  · refine zi_aload_n h rfl rfl ?_
    refine zg_ref h rfl (by first | rfl | assumption) (by decide) rfl rfl ?_
    refine zi_iload_n h rfl rfl ?_
    refine zi_dup2 h rfl rfl rfl ?_
    refine za_i h rfl (by first | rfl | assumption) rfl (by omega) (by decide) ?_
    refine zn_iconst h 1 rfl rfl ?_
    first | refine zn_iadd h rfl ?_ | refine zi_iadd h rfl ?_
    refine zs_i h rfl (by first | rfl | assumption) rfl (by omega) (by decide) ?_
    refine zi_aload_n h rfl rfl ?_
    refine zg_ref h rfl (by first | rfl | assumption) (by decide) rfl rfl ?_
    show X 38 _ _ _ _
    refine zi_iload h rfl rfl ?_
    refine zi_aload_n h rfl rfl ?_
    refine zg_ref h rfl (by first | rfl | assumption) (by decide) rfl rfl ?_
    refine zi_iload_n h rfl rfl ?_
    refine za_i h rfl (by first | rfl | assumption) rfl (by omega) (by decide) ?_
    refine zs_i h rfl (by first | rfl | assumption) rfl (by omega) (by decide) ?_
    refine zi_vret h rfl ?_
    refine tw_memP (fun q j => ?_) hP
    have e1 : tw_up (tw_up (tw_up (tw_up f 70 (32 * c + b) (nI 1)) 71 (32 * c + b) v) 73 (32 * c + b) 1) 72 (32 * c + b) (nI 0) 96 c = f 96 c := by rw [tw_off (by omega), tw_off (by omega), tw_off (by omega), tw_off (by omega)]
    rw [e1]
    have e2 : tw_up (tw_up (tw_up (tw_up (tw_up f 70 (32 * c + b) (nI 1)) 71 (32 * c + b) v) 73 (32 * c + b) 1) 72 (32 * c + b) (nI 0)) 96 c (f 96 c + nI 1) 96 c = f 96 c + 1 := by simp [tw_up, tw_n1]
    rw [e2]
    rfl
set_option maxRecDepth 20000 in
theorem s_k_send {fl : Bool} {d : Nat} {f : tw_S} {P : tw_S → Option tw_A → Prop} {c m : Nat} {s a b v t : Int32} (hc : c < 2) (hm : f 98 (1 - c) = nI m) (hm2 : m ≤ 40) (hP : P (k_send f c s a b v t) none) : tS fl (d + 1) 114 [tw_R 61, tw_I (nI c), tw_I s, tw_I a, tw_I b, tw_I v, tw_I t] f P := by
  refine tw_Sp_of rfl rfl (Nat.le_of_ble_eq_true rfl) (fun X h => ?_)
  have hcc := hc
  have e40 : f 98 (1 - c) = 40 ↔ m = 40 := by
    rw [hm]
    exact nI_eq (b := 40) (by omega) (by omega)
  refine zn_iconst h 1 rfl rfl ?_
  refine zi_iload_n h rfl rfl ?_
  first | refine zn_isub h rfl (by omega) ?_ | refine zi_isub h rfl ?_
  refine zi_istore h rfl (Nat.le_of_ble_eq_true rfl) ?_
  refine zi_aload_n h rfl rfl ?_
  refine zg_boo h rfl (by first | rfl | assumption) (by decide) rfl ?_
  first | refine zb_ifne h rfl (fun hc => ?_) (fun hc => ?_) | refine zc_ifne h rfl (fun hc => ?_) (fun hc => ?_)
  · refine zi_vret h rfl ?_
    rw [k_send, if_neg (fun g => hc g.1)] at hP
    exact hP
  · have c0 := hc
    refine zi_aload_n h rfl rfl ?_
    refine zg_ref h rfl (by first | rfl | assumption) (by decide) rfl rfl ?_
    refine zi_iload h rfl rfl ?_
    refine za_n h m rfl (by first | rfl | assumption) rfl (by omega) (by decide) hm ?_
    refine zn_bipush h 40 rfl rfl ?_
    first | refine zn_icmpne h rfl (by omega) (by omega) (fun hc => ?_) (fun hc => ?_) | refine zc_icmpne h rfl (fun hc => ?_) (fun hc => ?_)
    · rw [k_send, if_pos ⟨c0, fun g => hc (e40.mp g)⟩, k_at, hm, nI_clamp (by omega), nI_1] at hP
      refine zn_sipush h 200 rfl rfl ?_
      refine zi_iload h rfl rfl ?_
      first | refine zn_imul h rfl ?_ | refine zi_imul h rfl ?_
      refine zn_iconst h 5 rfl rfl ?_
      refine zi_aload_n h rfl rfl ?_
      refine zg_ref h rfl (by first | rfl | assumption) (by decide) rfl rfl ?_
      refine zi_iload h rfl rfl ?_
      refine za_n h m rfl (by first | rfl | assumption) rfl (by omega) (by decide) hm ?_
      first | refine zn_imul h rfl ?_ | refine zi_imul h rfl ?_
      first | refine zn_iadd h rfl ?_ | refine zi_iadd h rfl ?_
      refine zi_istore h rfl (Nat.le_of_ble_eq_true rfl) ?_
      refine zi_aload_n h rfl rfl ?_
      refine zg_ref h rfl (by first | rfl | assumption) (by decide) rfl rfl ?_
      refine zi_iload h rfl rfl ?_
      refine zi_iload_n h rfl rfl ?_
      refine zs_i h rfl (by first | rfl | assumption) rfl (by omega) (by decide) ?_
      refine zi_aload_n h rfl rfl ?_
      refine zg_ref h rfl (by first | rfl | assumption) (by decide) rfl rfl ?_
      show X 32 _ _ _ _
      refine zi_iload h rfl rfl ?_
      refine zn_iconst h 1 rfl rfl ?_
      first | refine zn_iadd h rfl ?_ | refine zi_iadd h rfl ?_
      refine zi_iload_n h rfl rfl ?_
      refine zs_i h rfl (by first | rfl | assumption) rfl (by omega) (by decide) ?_
      refine zi_aload_n h rfl rfl ?_
      refine zg_ref h rfl (by first | rfl | assumption) (by decide) rfl rfl ?_
      refine zi_iload h rfl rfl ?_
      refine zn_iconst h 2 rfl rfl ?_
      first | refine zn_iadd h rfl ?_ | refine zi_iadd h rfl ?_
      show X 42 _ _ _ _
      refine zi_iload h rfl rfl ?_
      refine zs_i h rfl (by first | rfl | assumption) rfl (by omega) (by decide) ?_
      refine zi_aload_n h rfl rfl ?_
      refine zg_ref h rfl (by first | rfl | assumption) (by decide) rfl rfl ?_
      refine zi_iload h rfl rfl ?_
      refine zn_iconst h 3 rfl rfl ?_
      first | refine zn_iadd h rfl ?_ | refine zi_iadd h rfl ?_
      refine zi_iload h rfl rfl ?_
      refine zs_i h rfl (by first | rfl | assumption) rfl (by omega) (by decide) ?_
      refine zi_aload_n h rfl rfl ?_
      show X 52 _ _ _ _
      refine zg_ref h rfl (by first | rfl | assumption) (by decide) rfl rfl ?_
      refine zi_iload h rfl rfl ?_
      refine zn_iconst h 4 rfl rfl ?_
      first | refine zn_iadd h rfl ?_ | refine zi_iadd h rfl ?_
      refine zi_iload h rfl rfl ?_
      refine zs_i h rfl (by first | rfl | assumption) rfl (by omega) (by decide) ?_
      refine zi_aload_n h rfl rfl ?_
      refine zg_ref h rfl (by first | rfl | assumption) (by decide) rfl rfl ?_
      refine zi_iload h rfl rfl ?_
      refine zi_dup2 h rfl rfl rfl ?_
      refine za_n h m rfl (by first | rfl | assumption) rfl (by omega) (by decide) (by rw [tw_off (by omega), tw_off (by omega), tw_off (by omega), tw_off (by omega), tw_off (by omega)]; exact hm) ?_
      refine zn_iconst h 1 rfl rfl ?_
      first | refine zn_iadd h rfl ?_ | refine zi_iadd h rfl ?_
      refine zs_i h rfl (by first | rfl | assumption) rfl (by omega) (by decide) ?_
      refine zi_vret h rfl ?_
      exact hP
    · refine zi_vret h rfl ?_
      rw [k_send, if_neg (fun g => g.2 (e40.mpr hc))] at hP
      exact hP
set_option maxRecDepth 20000 in
theorem s_k_parityDisk {fl : Bool} {d : Nat} {f : tw_S} {P : tw_S → Option tw_A → Prop} {s : Nat} (hs : s < 8) (hP : P f (some (tw_I (nI (p_pd s))))) : tS fl (d + 1) 117 [tw_I (nI s)] f P := by
  refine tw_Sp_of rfl rfl (Nat.le_of_ble_eq_true rfl) (fun X h => ?_)
  refine zn_iconst h 4 rfl rfl ?_
  refine zi_iload_n h rfl rfl ?_
  refine zn_iconst h 5 rfl rfl ?_
  refine zn_irem h rfl (by omega) (by omega) (by omega) ?_
  first | refine zn_isub h rfl (by omega) ?_ | refine zi_isub h rfl ?_
  refine zi_iret h rfl ?_
  exact hP
set_option maxRecDepth 20000 in
theorem s_k_dataDisk {fl : Bool} {d : Nat} {f : tw_S} {P : tw_S → Option tw_A → Prop} {b : Nat} (hb : b < 32) (hP : P f (some (tw_I (nI (p_dd (b / 4) (b % 4)))))) : tS fl (d + 2) 118 [tw_I (nI b)] f P := by
  have hp : p_pd (b / 4) < 5 := by unfold p_pd; omega
  refine tw_Sp_of rfl rfl (Nat.le_of_ble_eq_true rfl) (fun X h => ?_)
  refine zi_iload_n h rfl rfl ?_
  refine zn_iconst h 4 rfl rfl ?_
  refine zn_irem h rfl (by omega) (by omega) (by omega) ?_
  refine zi_istore_n h rfl (Nat.le_of_ble_eq_true rfl) ?_
  refine zi_iload_n h rfl rfl ?_
  refine zi_iload_n h rfl rfl ?_
  refine zn_iconst h 4 rfl rfl ?_
  refine zn_idiv h rfl (by omega) (by omega) (by omega) ?_
  refine zk_S h [_] rfl rfl rfl (Nat.le_of_ble_eq_true rfl) (s_k_parityDisk (by omega) ?_)
  first | refine zn_icmplt h rfl (by omega) (by omega) (fun hc => ?_) (fun hc => ?_) | refine zc_icmplt h rfl (fun hc => ?_) (fun hc => ?_)
  · refine zi_iload_n h rfl rfl ?_
    refine zi_iret h rfl ?_
    rw [show p_dd (b / 4) (b % 4) = b % 4 from if_pos hc] at hP
    exact hP
  · first | refine zn_iinc h 1 rfl rfl rfl ?_ | refine zi_iinc h rfl rfl ?_
    refine zi_iload_n h rfl rfl ?_
    refine zi_iret h rfl ?_
    rw [show p_dd (b / 4) (b % 4) = b % 4 + 1 from if_neg (by omega)] at hP
    exact hP
set_option maxRecDepth 20000 in
theorem s_k_isMissing {fl : Bool} {d : Nat} {f : tw_S} {P : tw_S → Option tw_A → Prop} {i s : Nat} (hi : i < 5) (hs : s < 8) (hP : P f (some (tw_I (tw_nz (f 65 (i * 8 + s)))))) : tS fl (d + 1) 119 [tw_R 61, tw_I (nI i), tw_I (nI s)] f P := by
  rw [Nat.mul_comm i 8] at hP
  refine tw_Sp_of rfl rfl (Nat.le_of_ble_eq_true rfl) (fun X h => ?_)
  refine zi_aload_n h rfl rfl ?_
  refine zg_ref h rfl (by first | rfl | assumption) (by decide) rfl rfl ?_
  refine zn_bipush h 8 rfl rfl ?_
  refine zi_iload_n h rfl rfl ?_
  first | refine zn_imul h rfl ?_ | refine zi_imul h rfl ?_
  refine zi_iload_n h rfl rfl ?_
  first | refine zn_iadd h rfl ?_ | refine zi_iadd h rfl ?_
  refine za_z h rfl (by first | rfl | assumption) rfl (by omega) (by decide) ?_
  refine zi_zret h rfl (by first | exact Or.inl rfl | exact Or.inr rfl | exact tw_nz_01 _ | assumption) ?_
  exact hP
set_option maxRecDepth 20000 in
theorem s_k_othersThere {fl : Bool} {d : Nat} {f : tw_S} {P : tw_S → Option tw_A → Prop} {i s : Nat} (hs : s < 8) (hi : i < 6) (h1 : ¬ p_om (f 65) i s 5 → P f (some (tw_I 1))) (h2 : p_om (f 65) i s 5 → P f (some (tw_I 0))) : tS fl (d + 2) 120 [tw_R 61, tw_I (nI i), tw_I (nI s)] f P := by
  refine tw_Sp_of rfl rfl (Nat.le_of_ble_eq_true rfl) (fun X h => ?_)
  have loop : ∀ m j : Nat, j + m = 5 → ¬ p_om (f 65) i s j → X 2 [some (tw_R 61), some (tw_I (nI i)), some (tw_I (nI s)), some (tw_I (nI j))] [] tx_L0 f := by
    intro m
    induction m with
    | zero =>
      intro j hj he
      obtain rfl : j = 5 := by omega
      refine zi_iload_n h rfl rfl ?_
      refine zn_iconst h 5 rfl rfl ?_
      first | refine zn_icmpge h rfl (by omega) (by omega) (fun hc => ?_) (fun hc => ?_) | refine zc_icmpge h rfl (fun hc => ?_) (fun hc => ?_)
      · refine zn_iconst h 1 rfl rfl ?_
        refine zi_zret h rfl (by first | exact Or.inl rfl | exact Or.inr rfl | exact tw_nz_01 _ | assumption) ?_
        exact h1 he
      · omega
    | succ m ih =>
      intro j hj he
      refine zi_iload_n h rfl rfl ?_
      refine zn_iconst h 5 rfl rfl ?_
      first | refine zn_icmpge h rfl (by omega) (by omega) (fun hc => ?_) (fun hc => ?_) | refine zc_icmpge h rfl (fun hc => ?_) (fun hc => ?_)
      · omega
      · refine zi_iload_n h rfl rfl ?_
        refine zi_iload_n h rfl rfl ?_
        first | refine zn_icmpeq h rfl (by omega) (by omega) (fun hc => ?_) (fun hc => ?_) | refine zc_icmpeq h rfl (fun hc => ?_) (fun hc => ?_)
        · have ih := ih (j + 1) (by omega) (p_om_succ he (Or.inl hc))
          first | refine zn_iinc h 1 rfl rfl rfl ?_ | refine zi_iinc h rfl rfl ?_
          refine zi_goto h rfl ?_
          exact ih
        · have hc0 := hc
          refine zi_aload_n h rfl rfl ?_
          refine zi_iload_n h rfl rfl ?_
          refine zi_iload_n h rfl rfl ?_
          refine zk_V h [_, _] rfl (by first | rfl | assumption) rfl rfl (Nat.le_of_ble_eq_true rfl) (s_k_isMissing (by omega) (by omega) ?_)
          first | refine zb_ifeq h rfl (fun hc => ?_) (fun hc => ?_) | refine zc_ifeq h rfl (fun hc => ?_) (fun hc => ?_)
          · have ih := ih (j + 1) (by omega) (p_om_succ he (Or.inr hc))
            first | refine zn_iinc h 1 rfl rfl rfl ?_ | refine zi_iinc h rfl rfl ?_
            refine zi_goto h rfl ?_
            exact ih
          · refine zn_iconst h 0 rfl rfl ?_
            refine zi_zret h rfl (by first | exact Or.inl rfl | exact Or.inr rfl | exact tw_nz_01 _ | assumption) ?_
            exact h2 ⟨j, by omega, hc0, hc⟩
  refine zn_iconst h 0 rfl rfl ?_
  refine zi_istore_n h rfl (Nat.le_of_ble_eq_true rfl) ?_
  exact loop 5 0 (by omega) (fun ⟨o, ho, _⟩ => by omega)
set_option maxRecDepth 20000 in
theorem s_k_isLost {fl : Bool} {d : Nat} {f : tw_S} {P : tw_S → Option tw_A → Prop} {b : Nat} (hb : b < 32) (h1 : p_lost (f 65) b → P f (some (tw_I 1))) (h2 : ¬ p_lost (f 65) b → P f (some (tw_I 0))) : tS fl (d + 3) 121 [tw_R 61, tw_I (nI b)] f P := by
  have hdd := p_dd_lt (s := b / 4) (k := b % 4) (by omega)
  refine tw_Sp_of rfl rfl (Nat.le_of_ble_eq_true rfl) (fun X h => ?_)
  refine zi_iload_n h rfl rfl ?_
  refine zk_S h [_] rfl rfl rfl (Nat.le_of_ble_eq_true rfl) (s_k_dataDisk hb ?_)
  refine zi_istore_n h rfl (Nat.le_of_ble_eq_true rfl) ?_
  refine zi_aload_n h rfl rfl ?_
  refine zi_iload_n h rfl rfl ?_
  refine zi_iload_n h rfl rfl ?_
  refine zn_iconst h 4 rfl rfl ?_
  refine zn_idiv h rfl (by omega) (by omega) (by omega) ?_
  refine zk_V h [_, _] rfl (by first | rfl | assumption) rfl rfl (Nat.le_of_ble_eq_true rfl) (s_k_isMissing hdd (by omega) ?_)
  first | refine zb_ifeq h rfl (fun hc => ?_) (fun hc => ?_) | refine zc_ifeq h rfl (fun hc => ?_) (fun hc => ?_)
  · refine zn_iconst h 0 rfl rfl ?_
    refine zi_zret h rfl (by first | exact Or.inl rfl | exact Or.inr rfl | exact tw_nz_01 _ | assumption) ?_
    exact h2 (fun g => g.1 hc)
  · have hc0 := hc
    refine zi_aload_n h rfl rfl ?_
    refine zi_iload_n h rfl rfl ?_
    refine zi_iload_n h rfl rfl ?_
    refine zn_iconst h 4 rfl rfl ?_
    refine zn_idiv h rfl (by omega) (by omega) (by omega) ?_
    refine zk_V h [_, _] rfl (by first | rfl | assumption) rfl rfl (Nat.le_of_ble_eq_true rfl) (s_k_othersThere (by omega) (by omega) (fun hm => ?_) (fun hm => ?_))
    · first | refine zb_ifne h rfl (fun hc => ?_) (fun hc => ?_) | refine zc_ifne h rfl (fun hc => ?_) (fun hc => ?_)
      · refine zn_iconst h 0 rfl rfl ?_
        refine zi_zret h rfl (by first | exact Or.inl rfl | exact Or.inr rfl | exact tw_nz_01 _ | assumption) ?_
        exact h2 (fun g => hm g.2)
      · exact absurd hc (by decide)
    · first | refine zb_ifne h rfl (fun hc => ?_) (fun hc => ?_) | refine zc_ifne h rfl (fun hc => ?_) (fun hc => ?_)
      · exact absurd rfl hc
      · refine zn_iconst h 1 rfl rfl ?_
        refine zi_goto h rfl ?_
        refine zi_zret h rfl (by first | exact Or.inl rfl | exact Or.inr rfl | exact tw_nz_01 _ | assumption) ?_
        exact h1 ⟨hc0, hm⟩
set_option maxRecDepth 20000 in
theorem s_k_others {fl : Bool} {d : Nat} {f : tw_S} {P : tw_S → Option tw_A → Prop} {i s : Nat} (hi : i < 6) (hs : s < 8) (hP : P f (some (tw_I (p_xor (f 64) i s 5)))) : tS fl (d + 1) 122 [tw_R 61, tw_I (nI i), tw_I (nI s)] f P := by
  refine tw_Sp_of rfl rfl (Nat.le_of_ble_eq_true rfl) (fun X h => ?_)
  have loop : ∀ m j : Nat, j + m = 5 → X 4 [some (tw_R 61), some (tw_I (nI i)), some (tw_I (nI s)), some (tw_I (p_xor (f 64) i s j)), some (tw_I (nI j))] [] tx_L0 f := by
    intro m
    induction m with
    | zero =>
      intro j hj
      obtain rfl : j = 5 := by omega
      refine zi_iload h rfl rfl ?_
      refine zn_iconst h 5 rfl rfl ?_
      first | refine zn_icmpge h rfl (by omega) (by omega) (fun hc => ?_) (fun hc => ?_) | refine zc_icmpge h rfl (fun hc => ?_) (fun hc => ?_)
      · refine zi_iload_n h rfl rfl ?_
        refine zi_iret h rfl ?_
        exact hP
      · omega
    | succ m ih =>
      intro j hj
      have ih := ih (j + 1) (by omega)
      refine zi_iload h rfl rfl ?_
      refine zn_iconst h 5 rfl rfl ?_
      first | refine zn_icmpge h rfl (by omega) (by omega) (fun hc => ?_) (fun hc => ?_) | refine zc_icmpge h rfl (fun hc => ?_) (fun hc => ?_)
      · omega
      · refine zi_iload h rfl rfl ?_
        refine zi_iload_n h rfl rfl ?_
        first | refine zn_icmpeq h rfl (by omega) (by omega) (fun hc => ?_) (fun hc => ?_) | refine zc_icmpeq h rfl (fun hc => ?_) (fun hc => ?_)
        · rw [show p_xor (f 64) i s (j + 1) = p_xor (f 64) i s j by simp [p_xor, hc]] at ih
          first | refine zn_iinc h 1 rfl rfl rfl ?_ | refine zi_iinc h rfl rfl ?_
          refine zi_goto h rfl ?_
          exact ih
        · rw [show p_xor (f 64) i s (j + 1) = p_xor (f 64) i s j ^^^ f 64 (8 * j + s) by simp [p_xor, hc, Nat.mul_comm]] at ih
          refine zi_iload_n h rfl rfl ?_
          refine zi_aload_n h rfl rfl ?_
          refine zg_ref h rfl (by first | rfl | assumption) (by decide) rfl rfl ?_
          refine zn_bipush h 8 rfl rfl ?_
          refine zi_iload h rfl rfl ?_
          first | refine zn_imul h rfl ?_ | refine zi_imul h rfl ?_
          refine zi_iload_n h rfl rfl ?_
          first | refine zn_iadd h rfl ?_ | refine zi_iadd h rfl ?_
          refine za_i h rfl (by first | rfl | assumption) rfl (by omega) (by decide) ?_
          refine zi_ixor h rfl ?_
          show X 20 _ _ _ _
          refine zi_istore_n h rfl (Nat.le_of_ble_eq_true rfl) ?_
          first | refine zn_iinc h 1 rfl rfl rfl ?_ | refine zi_iinc h rfl rfl ?_
          refine zi_goto h rfl ?_
          exact ih
  refine zn_iconst h 0 rfl rfl ?_
  refine zi_istore_n h rfl (Nat.le_of_ble_eq_true rfl) ?_
  refine zn_iconst h 0 rfl rfl ?_
  refine zi_istore h rfl (Nat.le_of_ble_eq_true rfl) ?_
  exact loop 5 0 (by omega)
set_option maxRecDepth 20000 in
theorem s_k_what {fl : Bool} {d : Nat} {f : tw_S} {P : tw_S → Option tw_A → Prop} {b : Nat} (hb : b < 32) (hP : P f (some (tw_I (p_what (f 65) (f 64) b)))) : tS fl (d + 3) 123 [tw_R 61, tw_I (nI b)] f P := by
  have hdd := p_dd_lt (s := b / 4) (k := b % 4) (by omega)
  refine tw_Sp_of rfl rfl (Nat.le_of_ble_eq_true rfl) (fun X h => ?_)
  refine zi_iload_n h rfl rfl ?_
  refine zk_S h [_] rfl rfl rfl (Nat.le_of_ble_eq_true rfl) (s_k_dataDisk hb ?_)
  refine zi_istore_n h rfl (Nat.le_of_ble_eq_true rfl) ?_
  refine zi_aload_n h rfl rfl ?_
  refine zi_iload_n h rfl rfl ?_
  refine zi_iload_n h rfl rfl ?_
  refine zn_iconst h 4 rfl rfl ?_
  refine zn_idiv h rfl (by omega) (by omega) (by omega) ?_
  refine zk_V h [_, _] rfl (by first | rfl | assumption) rfl rfl (Nat.le_of_ble_eq_true rfl) (s_k_isMissing hdd (by omega) ?_)
  first | refine zb_ifeq h rfl (fun hc => ?_) (fun hc => ?_) | refine zc_ifeq h rfl (fun hc => ?_) (fun hc => ?_)
  · rw [show p_what (f 65) (f 64) b = _ from if_pos hc, Nat.mul_comm (p_dd (b / 4) (b % 4)) 8] at hP
    refine zi_aload_n h rfl rfl ?_
    refine zg_ref h rfl (by first | rfl | assumption) (by decide) rfl rfl ?_
    refine zn_bipush h 8 rfl rfl ?_
    refine zi_iload_n h rfl rfl ?_
    first | refine zn_imul h rfl ?_ | refine zi_imul h rfl ?_
    refine zi_iload_n h rfl rfl ?_
    refine zn_iconst h 4 rfl rfl ?_
    refine zn_idiv h rfl (by omega) (by omega) (by omega) ?_
    first | refine zn_iadd h rfl ?_ | refine zi_iadd h rfl ?_
    refine za_i h rfl (by first | rfl | assumption) rfl (by omega) (by decide) ?_
    show X 27 _ _ _ _
    refine zi_iret h rfl ?_
    exact hP
  · rw [show p_what (f 65) (f 64) b = _ from if_neg hc] at hP
    refine zi_aload_n h rfl rfl ?_
    refine zi_iload_n h rfl rfl ?_
    refine zi_iload_n h rfl rfl ?_
    refine zn_iconst h 4 rfl rfl ?_
    refine zn_idiv h rfl (by omega) (by omega) (by omega) ?_
    refine zk_V h [_, _] rfl (by first | rfl | assumption) rfl rfl (Nat.le_of_ble_eq_true rfl) (s_k_others (by omega) (by omega) ?_)
    refine zi_iret h rfl ?_
    exact hP
set_option maxRecDepth 20000 in
theorem s_k_lands {fl : Bool} {d : Nat} {f : tw_S} {P : tw_S → Option tw_A → Prop} {i s : Nat} {v : Int32} (hi : i < 5) (hs : s < 8) (hP : P (k_put f i s v) none) : tS fl (d + 1) 127 [tw_R 61, tw_I (nI i), tw_I (nI s), tw_I v] f P := by
  rw [k_put, Nat.mul_comm i 8] at hP
  refine tw_Sp_of rfl rfl (Nat.le_of_ble_eq_true rfl) (fun X h => ?_)
  refine zi_aload_n h rfl rfl ?_
  refine zg_ref h rfl (by first | rfl | assumption) (by decide) rfl rfl ?_
  refine zn_bipush h 8 rfl rfl ?_
  refine zi_iload_n h rfl rfl ?_
  first | refine zn_imul h rfl ?_ | refine zi_imul h rfl ?_
  refine zi_iload_n h rfl rfl ?_
  first | refine zn_iadd h rfl ?_ | refine zi_iadd h rfl ?_
  refine zi_iload_n h rfl rfl ?_
  refine zs_i h rfl (by first | rfl | assumption) rfl (by omega) (by decide) ?_
  refine zi_aload_n h rfl rfl ?_
  show X 10 _ _ _ _
  refine zg_ref h rfl (by first | rfl | assumption) (by decide) rfl rfl ?_
  refine zn_bipush h 8 rfl rfl ?_
  refine zi_iload_n h rfl rfl ?_
  first | refine zn_imul h rfl ?_ | refine zi_imul h rfl ?_
  refine zi_iload_n h rfl rfl ?_
  first | refine zn_iadd h rfl ?_ | refine zi_iadd h rfl ?_
  refine zn_iconst h 0 rfl rfl ?_
  refine zs_z h rfl (by first | rfl | assumption) rfl (by omega) (by decide) (by first | exact Or.inl rfl | exact Or.inr rfl | exact tw_nz_01 _ | assumption) ?_
  refine zi_vret h rfl ?_
  exact hP
set_option maxRecDepth 20000 in
theorem s_k_greatest {fl : Bool} {d : Nat} {f : tw_S} {P : tw_S → Option tw_A → Prop} (hP : P f (some (tw_I (p_great (f 62) (f 63) 5)))) : tS fl (d + 1) 146 [tw_R 61] f P := by
  refine tw_Sp_of rfl rfl (Nat.le_of_ble_eq_true rfl) (fun X h => ?_)
  have loop : ∀ n i : Nat, i + n = 5 → X 4 [some (tw_R 61), some (tw_I (p_great (f 62) (f 63) i)), some (tw_I (nI i))] [] tx_L0 f := by
    intro n
    induction n with
    | zero =>
      intro i hi
      obtain rfl : i = 5 := by omega
      refine zi_iload_n h rfl rfl ?_
      refine zn_iconst h 5 rfl rfl ?_
      first | refine zn_icmpge h rfl (by omega) (by omega) (fun hc => ?_) (fun hc => ?_) | refine zc_icmpge h rfl (fun hc => ?_) (fun hc => ?_)
      · refine zi_iload_n h rfl rfl ?_
        refine zi_iret h rfl ?_
        exact hP
      · omega
    | succ n ih =>
      intro i hi
      have ih := ih (i + 1) (by omega)
      refine zi_iload_n h rfl rfl ?_
      refine zn_iconst h 5 rfl rfl ?_
      first | refine zn_icmpge h rfl (by omega) (by omega) (fun hc => ?_) (fun hc => ?_) | refine zc_icmpge h rfl (fun hc => ?_) (fun hc => ?_)
      · omega
      · refine zi_aload_n h rfl rfl ?_
        refine zg_ref h rfl (by first | rfl | assumption) (by decide) rfl rfl ?_
        refine zi_iload_n h rfl rfl ?_
        refine za_z h rfl (by first | rfl | assumption) rfl (by omega) (by decide) ?_
        first | refine zb_ifeq h rfl (fun hc => ?_) (fun hc => ?_) | refine zc_ifeq h rfl (fun hc => ?_) (fun hc => ?_)
        · rw [show p_great (f 62) (f 63) (i + 1) = p_great (f 62) (f 63) i by simp [p_great, hc]] at ih
          first | refine zn_iinc h 1 rfl rfl rfl ?_ | refine zi_iinc h rfl rfl ?_
          refine zi_goto h rfl ?_
          exact ih
        · rw [show p_great (f 62) (f 63) (i + 1) = (if p_great (f 62) (f 63) i < f 63 i then f 63 i else p_great (f 62) (f 63) i) by simp [p_great, hc]] at ih
          refine zi_aload_n h rfl rfl ?_
          refine zg_ref h rfl (by first | rfl | assumption) (by decide) rfl rfl ?_
          refine zi_iload_n h rfl rfl ?_
          refine za_i h rfl (by first | rfl | assumption) rfl (by omega) (by decide) ?_
          refine zi_iload_n h rfl rfl ?_
          refine zc_icmple h rfl (fun hc => ?_) (fun hc => ?_)
          · rw [if_neg (Int32.not_lt.mpr hc)] at ih
            first | refine zn_iinc h 1 rfl rfl rfl ?_ | refine zi_iinc h rfl rfl ?_
            refine zi_goto h rfl ?_
            exact ih
          · rw [if_pos (Int32.not_le.mp hc)] at ih
            refine zi_aload_n h rfl rfl ?_
            refine zg_ref h rfl (by first | rfl | assumption) (by decide) rfl rfl ?_
            refine zi_iload_n h rfl rfl ?_
            refine za_i h rfl (by first | rfl | assumption) rfl (by omega) (by decide) ?_
            refine zi_istore_n h rfl (Nat.le_of_ble_eq_true rfl) ?_
            first | refine zn_iinc h 1 rfl rfl rfl ?_ | refine zi_iinc h rfl rfl ?_
            refine zi_goto h rfl ?_
            exact ih
  refine zn_iconst h 0 rfl rfl ?_
  refine zi_istore_n h rfl (Nat.le_of_ble_eq_true rfl) ?_
  refine zn_iconst h 0 rfl rfl ?_
  refine zi_istore_n h rfl (Nat.le_of_ble_eq_true rfl) ?_
  exact loop 5 0 (by omega)
set_option maxRecDepth 20000 in
theorem s_k_begins {fl : Bool} {d : Nat} {f : tw_S} {P : tw_S → Option tw_A → Prop} {c : Nat} {a b v : Int32} (hc : c < 2) (hP : P (k_begins f c a b v) none) : tS fl (d + 1) 131 [tw_R 61, tw_I (nI c), tw_I a, tw_I b, tw_I v] f P := by
  refine tw_Sp_of rfl rfl (Nat.le_of_ble_eq_true rfl) (fun X h => ?_)
  have e : ∀ x y z : Int32, tw_up (tw_up (tw_up f 80 c x) 81 c y) 82 c z 67 c = f 67 c := fun x y z => by rw [tw_off (by omega), tw_off (by omega), tw_off (by omega)]
  refine zi_aload_n h rfl rfl ?_
  refine zg_ref h rfl (by first | rfl | assumption) (by decide) rfl rfl ?_
  refine zi_iload_n h rfl rfl ?_
  refine zi_iload_n h rfl rfl ?_
  refine zs_i h rfl (by first | rfl | assumption) rfl (by omega) (by decide) ?_
  refine zi_aload_n h rfl rfl ?_
  refine zg_ref h rfl (by first | rfl | assumption) (by decide) rfl rfl ?_
  refine zi_iload_n h rfl rfl ?_
  refine zi_iload_n h rfl rfl ?_
  refine zs_i h rfl (by first | rfl | assumption) rfl (by omega) (by decide) ?_
  show X 10 _ _ _ _
  refine zi_aload_n h rfl rfl ?_
  refine zg_ref h rfl (by first | rfl | assumption) (by decide) rfl rfl ?_
  refine zi_iload_n h rfl rfl ?_
  refine zi_iload h rfl rfl ?_
  refine zs_i h rfl (by first | rfl | assumption) rfl (by omega) (by decide) ?_
  refine zi_aload_n h rfl rfl ?_
  refine zg_ref h rfl (by first | rfl | assumption) (by decide) rfl rfl ?_
  refine zi_iload_n h rfl rfl ?_
  refine zi_aload_n h rfl rfl ?_
  refine zg_ref h rfl (by first | rfl | assumption) (by decide) rfl rfl ?_
  show X 20 _ _ _ _
  refine zi_iload_n h rfl rfl ?_
  refine za_i h rfl (by first | rfl | assumption) rfl (by omega) (by decide) ?_
  refine zs_i h rfl (by first | rfl | assumption) rfl (by omega) (by decide) ?_
  refine zi_vret h rfl ?_
  rw [e]
  exact hP
set_option maxRecDepth 20000 in
theorem s_k_lowest {fl : Bool} {d : Nat} {f : tw_S} {P : tw_S → Option tw_A → Prop} {c q : Nat} (hc : c < 2) (hq : q = 77 ∨ q = 78 ∨ q = 79) (h1 : p_ft (fun s => f q (8 * c + s)) 8 0 < 8 → P f (some (tw_I (nI (p_ft (fun s => f q (8 * c + s)) 8 0))))) (h2 : ¬ p_ft (fun s => f q (8 * c + s)) 8 0 < 8 → P f (some (tw_I (-1)))) : tS fl (d + 1) 130 [tw_R 61, tw_R q, tw_I (nI c)] f P := by
  have lq : tx_L0[q]? = some (101, 16, []) := by rcases hq with rfl | rfl | rfl <;> rfl
  refine tw_Sp_of rfl rfl (Nat.le_of_ble_eq_true rfl) (fun X h => ?_)
  have loop : ∀ m j : Nat, j + m = 8 → p_ft (fun s => f q (8 * c + s)) m j = p_ft (fun s => f q (8 * c + s)) 8 0 → X 2 [some (tw_R 61), some (tw_R q), some (tw_I (nI c)), some (tw_I (nI j))] [] tx_L0 f := by
    intro m
    induction m with
    | zero =>
      intro j hj he
      obtain rfl : j = 8 := by omega
      have he : 8 = p_ft (fun s => f q (8 * c + s)) 8 0 := he
      refine zi_iload_n h rfl rfl ?_
      refine zn_bipush h 8 rfl rfl ?_
      first | refine zn_icmpge h rfl (by omega) (by omega) (fun hc => ?_) (fun hc => ?_) | refine zc_icmpge h rfl (fun hc => ?_) (fun hc => ?_)
      · refine zi_iconst h rfl ?_
        refine zi_iret h rfl ?_
        exact h2 (by omega)
      · omega
    | succ m ih =>
      intro j hj he
      refine zi_iload_n h rfl rfl ?_
      refine zn_bipush h 8 rfl rfl ?_
      first | refine zn_icmpge h rfl (by omega) (by omega) (fun hc => ?_) (fun hc => ?_) | refine zc_icmpge h rfl (fun hc => ?_) (fun hc => ?_)
      · omega
      · refine zi_aload_n h rfl rfl ?_
        refine zn_bipush h 8 rfl rfl ?_
        refine zi_iload_n h rfl rfl ?_
        first | refine zn_imul h rfl ?_ | refine zi_imul h rfl ?_
        refine zi_iload_n h rfl rfl ?_
        first | refine zn_iadd h rfl ?_ | refine zi_iadd h rfl ?_
        refine za_z h rfl (by first | rfl | assumption) rfl (by omega) (by decide) ?_
        first | refine zb_ifeq h rfl (fun hc => ?_) (fun hc => ?_) | refine zc_ifeq h rfl (fun hc => ?_) (fun hc => ?_)
        · have ih := ih (j + 1) (by omega) (by rw [← he]; simp [p_ft, hc])
          first | refine zn_iinc h 1 rfl rfl rfl ?_ | refine zi_iinc h rfl rfl ?_
          refine zi_goto h rfl ?_
          exact ih
        · have he : j = p_ft (fun s => f q (8 * c + s)) 8 0 := by rw [← he]; simp [p_ft, hc]
          refine zi_iload_n h rfl rfl ?_
          refine zi_iret h rfl ?_
          have h1 := h1 (by omega)
          rw [← he] at h1
          exact h1
  refine zn_iconst h 0 rfl rfl ?_
  refine zi_istore_n h rfl (Nat.le_of_ble_eq_true rfl) ?_
  exact loop 8 0 (by omega) rfl
def k_ln (f : tw_S) (c s : Nat) : Int32 := if f 77 (8 * c + s) = 0 ∨ ¬ f 79 (8 * c + s) = 0 then 0 else 1
set_option maxRecDepth 20000 in
theorem s_k_lowestNote {fl : Bool} {d : Nat} {f : tw_S} {P : tw_S → Option tw_A → Prop} {c : Nat} (hc : c < 2) (h1 : p_ft (k_ln f c) 8 0 < 8 → P f (some (tw_I (nI (p_ft (k_ln f c) 8 0))))) (h2 : ¬ p_ft (k_ln f c) 8 0 < 8 → P f (some (tw_I (-1)))) : tS fl (d + 1) 137 [tw_R 61, tw_I (nI c)] f P := by
  refine tw_Sp_of rfl rfl (Nat.le_of_ble_eq_true rfl) (fun X h => ?_)
  have loop : ∀ m j : Nat, j + m = 8 → p_ft (k_ln f c) m j = p_ft (k_ln f c) 8 0 → X 2 [some (tw_R 61), some (tw_I (nI c)), some (tw_I (nI j))] [] tx_L0 f := by
    intro m
    induction m with
    | zero =>
      intro j hj he
      obtain rfl : j = 8 := by omega
      have he : 8 = p_ft (k_ln f c) 8 0 := he
      refine zi_iload_n h rfl rfl ?_
      refine zn_bipush h 8 rfl rfl ?_
      first | refine zn_icmpge h rfl (by omega) (by omega) (fun hc => ?_) (fun hc => ?_) | refine zc_icmpge h rfl (fun hc => ?_) (fun hc => ?_)
      · refine zi_iconst h rfl ?_
        refine zi_iret h rfl ?_
        exact h2 (by omega)
      · omega
    | succ m ih =>
      intro j hj he
      have next : k_ln f c j = 0 → X 25 [some (tw_R 61), some (tw_I (nI c)), some (tw_I (nI j))] [] tx_L0 f := by
        intro hz
        have ih := ih (j + 1) (by omega) (by rw [← he]; simp [p_ft, hz])
        first | refine zn_iinc h 1 rfl rfl rfl ?_ | refine zi_iinc h rfl rfl ?_
        refine zi_goto h rfl ?_
        exact ih
      refine zi_iload_n h rfl rfl ?_
      refine zn_bipush h 8 rfl rfl ?_
      first | refine zn_icmpge h rfl (by omega) (by omega) (fun hc => ?_) (fun hc => ?_) | refine zc_icmpge h rfl (fun hc => ?_) (fun hc => ?_)
      · omega
      · refine zi_aload_n h rfl rfl ?_
        refine zg_ref h rfl (by first | rfl | assumption) (by decide) rfl rfl ?_
        refine zn_bipush h 8 rfl rfl ?_
        refine zi_iload_n h rfl rfl ?_
        first | refine zn_imul h rfl ?_ | refine zi_imul h rfl ?_
        refine zi_iload_n h rfl rfl ?_
        first | refine zn_iadd h rfl ?_ | refine zi_iadd h rfl ?_
        refine za_z h rfl (by first | rfl | assumption) rfl (by omega) (by decide) ?_
        first | refine zb_ifeq h rfl (fun hc => ?_) (fun hc => ?_) | refine zc_ifeq h rfl (fun hc => ?_) (fun hc => ?_)
        · exact next (if_pos (Or.inl hc))
        · have c1 := hc
          refine zi_aload_n h rfl rfl ?_
          refine zg_ref h rfl (by first | rfl | assumption) (by decide) rfl rfl ?_
          refine zn_bipush h 8 rfl rfl ?_
          refine zi_iload_n h rfl rfl ?_
          first | refine zn_imul h rfl ?_ | refine zi_imul h rfl ?_
          refine zi_iload_n h rfl rfl ?_
          first | refine zn_iadd h rfl ?_ | refine zi_iadd h rfl ?_
          refine za_z h rfl (by first | rfl | assumption) rfl (by omega) (by decide) ?_
          first | refine zb_ifne h rfl (fun hc => ?_) (fun hc => ?_) | refine zc_ifne h rfl (fun hc => ?_) (fun hc => ?_)
          · exact next (if_pos (Or.inr hc))
          · have hz : ¬ k_ln f c j = 0 := by
              rw [k_ln, if_neg (fun u => u.elim c1 (fun v => v hc))]
              decide
            have he : j = p_ft (k_ln f c) 8 0 := by rw [← he]; simp [p_ft, hz]
            refine zi_iload_n h rfl rfl ?_
            refine zi_iret h rfl ?_
            have h1 := h1 (by omega)
            rw [← he] at h1
            exact h1
  refine zn_iconst h 0 rfl rfl ?_
  refine zi_istore_n h rfl (Nat.le_of_ble_eq_true rfl) ?_
  exact loop 8 0 (by omega) rfl
set_option maxRecDepth 20000 in
theorem s_k_dirtyIn {fl : Bool} {d : Nat} {f : tw_S} {P : tw_S → Option tw_A → Prop} {c s : Nat} (hc : c < 2) (hs : s < 8) (hP : P f (some (tw_I (nI (p_cnt (fun j => f 73 (32 * c + (s * 4 + j))) 4))))) : tS fl (d + 1) 134 [tw_R 61, tw_I (nI c), tw_I (nI s)] f P := by
  refine tw_Sp_of rfl rfl (Nat.le_of_ble_eq_true rfl) (fun X h => ?_)
  have loop : ∀ n i : Nat, i + n = 4 → X 4 [some (tw_R 61), some (tw_I (nI c)), some (tw_I (nI s)), some (tw_I (nI (p_cnt (fun j => f 73 (32 * c + (s * 4 + j))) i))), some (tw_I (nI i))] [] tx_L0 f := by
    intro n
    induction n with
    | zero =>
      intro i hi
      obtain rfl : i = 4 := by omega
      refine zi_iload h rfl rfl ?_
      refine zn_iconst h 4 rfl rfl ?_
      first | refine zn_icmpge h rfl (by omega) (by omega) (fun hc => ?_) (fun hc => ?_) | refine zc_icmpge h rfl (fun hc => ?_) (fun hc => ?_)
      · refine zi_iload_n h rfl rfl ?_
        refine zi_iret h rfl ?_
        exact hP
      · omega
    | succ n ih =>
      intro i hi
      have ih := ih (i + 1) (by omega)
      have ei : 32 * c + 4 * s + i = 32 * c + (s * 4 + i) := by omega
      refine zi_iload h rfl rfl ?_
      refine zn_iconst h 4 rfl rfl ?_
      first | refine zn_icmpge h rfl (by omega) (by omega) (fun hc => ?_) (fun hc => ?_) | refine zc_icmpge h rfl (fun hc => ?_) (fun hc => ?_)
      · omega
      · refine zi_aload_n h rfl rfl ?_
        refine zg_ref h rfl (by first | rfl | assumption) (by decide) rfl rfl ?_
        refine zn_bipush h 32 rfl rfl ?_
        refine zi_iload_n h rfl rfl ?_
        first | refine zn_imul h rfl ?_ | refine zi_imul h rfl ?_
        refine zn_iconst h 4 rfl rfl ?_
        refine zi_iload_n h rfl rfl ?_
        first | refine zn_imul h rfl ?_ | refine zi_imul h rfl ?_
        first | refine zn_iadd h rfl ?_ | refine zi_iadd h rfl ?_
        refine zi_iload h rfl rfl ?_
        show X 17 _ _ _ _
        first | refine zn_iadd h rfl ?_ | refine zi_iadd h rfl ?_
        refine za_z h rfl (by first | rfl | assumption) rfl (by omega) (by decide) ?_
        first | refine zb_ifeq h rfl (fun hc => ?_) (fun hc => ?_) | refine zc_ifeq h rfl (fun hc => ?_) (fun hc => ?_)
        · rw [ei] at hc
          rw [show p_cnt (fun j => f 73 (32 * c + (s * 4 + j))) (i + 1) = p_cnt (fun j => f 73 (32 * c + (s * 4 + j))) i by simp [p_cnt, hc]] at ih
          first | refine zn_iinc h 1 rfl rfl rfl ?_ | refine zi_iinc h rfl rfl ?_
          refine zi_goto h rfl ?_
          exact ih
        · rw [ei] at hc
          rw [show p_cnt (fun j => f 73 (32 * c + (s * 4 + j))) (i + 1) = p_cnt (fun j => f 73 (32 * c + (s * 4 + j))) i + 1 by simp [p_cnt, hc]] at ih
          first | refine zn_iinc h 1 rfl rfl rfl ?_ | refine zi_iinc h rfl rfl ?_
          first | refine zn_iinc h 1 rfl rfl rfl ?_ | refine zi_iinc h rfl rfl ?_
          refine zi_goto h rfl ?_
          exact ih
  refine zn_iconst h 0 rfl rfl ?_
  refine zi_istore_n h rfl (Nat.le_of_ble_eq_true rfl) ?_
  refine zn_iconst h 0 rfl rfl ?_
  refine zi_istore h rfl (Nat.le_of_ble_eq_true rfl) ?_
  exact loop 4 0 (by omega)
set_option maxRecDepth 20000 in
theorem s_k_dirtyAll {fl : Bool} {d : Nat} {f : tw_S} {P : tw_S → Option tw_A → Prop} {c : Nat} (hc : c < 2) (hP : P f (some (tw_I (nI (p_cd (fun j => f 73 (32 * c + j)) 8))))) : tS fl (d + 2) 135 [tw_R 61, tw_I (nI c)] f P := by
  refine tw_Sp_of rfl rfl (Nat.le_of_ble_eq_true rfl) (fun X h => ?_)
  have hcc := hc
  have loop : ∀ n i : Nat, i + n = 8 → X 4 [some (tw_R 61), some (tw_I (nI c)), some (tw_I (nI (p_cd (fun j => f 73 (32 * c + j)) i))), some (tw_I (nI i))] [] tx_L0 f := by
    intro n
    induction n with
    | zero =>
      intro i hi
      obtain rfl : i = 8 := by omega
      refine zi_iload_n h rfl rfl ?_
      refine zn_bipush h 8 rfl rfl ?_
      first | refine zn_icmpge h rfl (by omega) (by omega) (fun hc => ?_) (fun hc => ?_) | refine zc_icmpge h rfl (fun hc => ?_) (fun hc => ?_)
      · refine zi_iload_n h rfl rfl ?_
        refine zi_iret h rfl ?_
        exact hP
      · omega
    | succ n ih =>
      intro i hi
      have ih := ih (i + 1) (by omega)
      refine zi_iload_n h rfl rfl ?_
      refine zn_bipush h 8 rfl rfl ?_
      first | refine zn_icmpge h rfl (by omega) (by omega) (fun hc => ?_) (fun hc => ?_) | refine zc_icmpge h rfl (fun hc => ?_) (fun hc => ?_)
      · omega
      · refine zi_iload_n h rfl rfl ?_
        refine zi_aload_n h rfl rfl ?_
        refine zi_iload_n h rfl rfl ?_
        refine zi_iload_n h rfl rfl ?_
        refine zk_V h [_, _] rfl (by first | rfl | assumption) rfl rfl (Nat.le_of_ble_eq_true rfl) (s_k_dirtyIn hcc (by omega) ?_)
        first | refine zn_iadd h rfl ?_ | refine zi_iadd h rfl ?_
        refine zi_istore_n h rfl (Nat.le_of_ble_eq_true rfl) ?_
        first | refine zn_iinc h 1 rfl rfl rfl ?_ | refine zi_iinc h rfl rfl ?_
        refine zi_goto h rfl ?_
        exact ih
  refine zn_iconst h 0 rfl rfl ?_
  refine zi_istore_n h rfl (Nat.le_of_ble_eq_true rfl) ?_
  refine zn_iconst h 0 rfl rfl ?_
  refine zi_istore_n h rfl (Nat.le_of_ble_eq_true rfl) ?_
  exact loop 8 0 (by omega)
set_option maxRecDepth 20000 in
theorem s_k_ofAll {fl : Bool} {d : Nat} {f : tw_S} {P : tw_S → Option tw_A → Prop} {x : Int32} (h1 : p_other (f 62) (f 63) x 5 = 0 → P f (some (tw_I 1))) (h2 : ¬ p_other (f 62) (f 63) x 5 = 0 → P f (some (tw_I 0))) : tS fl (d + 1) 144 [tw_R 61, tw_I x] f P := by
  refine tw_Sp_of rfl rfl (Nat.le_of_ble_eq_true rfl) (fun X h => ?_)
  have mono : ∀ n i, p_other (f 62) (f 63) x i ≤ p_other (f 62) (f 63) x (i + n) := by
    intro n
    induction n with
    | zero => intro i; exact Nat.le_refl _
    | succ n ih =>
      intro i
      have := ih i
      rw [show i + (n + 1) = i + n + 1 by omega]
      show _ ≤ p_other (f 62) (f 63) x (i + n) + _
      omega
  have loop : ∀ n i : Nat, i + n = 5 → p_other (f 62) (f 63) x i = 0 → X 2 [some (tw_R 61), some (tw_I x), some (tw_I (nI i))] [] tx_L0 f := by
    intro n
    induction n with
    | zero =>
      intro i hi hz
      obtain rfl : i = 5 := by omega
      refine zi_iload_n h rfl rfl ?_
      refine zn_iconst h 5 rfl rfl ?_
      first | refine zn_icmpge h rfl (by omega) (by omega) (fun hc => ?_) (fun hc => ?_) | refine zc_icmpge h rfl (fun hc => ?_) (fun hc => ?_)
      · refine zn_iconst h 1 rfl rfl ?_
        refine zi_zret h rfl (by first | exact Or.inl rfl | exact Or.inr rfl | exact tw_nz_01 _ | assumption) ?_
        exact h1 hz
      · omega
    | succ n ih =>
      intro i hi hz
      refine zi_iload_n h rfl rfl ?_
      refine zn_iconst h 5 rfl rfl ?_
      first | refine zn_icmpge h rfl (by omega) (by omega) (fun hc => ?_) (fun hc => ?_) | refine zc_icmpge h rfl (fun hc => ?_) (fun hc => ?_)
      · omega
      · refine zi_aload_n h rfl rfl ?_
        refine zg_ref h rfl (by first | rfl | assumption) (by decide) rfl rfl ?_
        refine zi_iload_n h rfl rfl ?_
        refine za_z h rfl (by first | rfl | assumption) rfl (by omega) (by decide) ?_
        first | refine zb_ifeq h rfl (fun hc => ?_) (fun hc => ?_) | refine zc_ifeq h rfl (fun hc => ?_) (fun hc => ?_)
        · have ih := ih (i + 1) (by omega) (by simp [p_other, hc, hz])
          first | refine zn_iinc h 1 rfl rfl rfl ?_ | refine zi_iinc h rfl rfl ?_
          refine zi_goto h rfl ?_
          exact ih
        · have c1 := hc
          refine zi_aload_n h rfl rfl ?_
          refine zg_ref h rfl (by first | rfl | assumption) (by decide) rfl rfl ?_
          refine zi_iload_n h rfl rfl ?_
          refine za_i h rfl (by first | rfl | assumption) rfl (by omega) (by decide) ?_
          refine zi_iload_n h rfl rfl ?_
          refine zc_icmpeq h rfl (fun hc => ?_) (fun hc => ?_)
          · have ih := ih (i + 1) (by omega) (by simp [p_other, hc, hz])
            first | refine zn_iinc h 1 rfl rfl rfl ?_ | refine zi_iinc h rfl rfl ?_
            refine zi_goto h rfl ?_
            exact ih
          · refine zn_iconst h 0 rfl rfl ?_
            refine zi_zret h rfl (by first | exact Or.inl rfl | exact Or.inr rfl | exact tw_nz_01 _ | assumption) ?_
            have e1 : p_other (f 62) (f 63) x (i + 1) = 1 := by simp [p_other, hc, c1, hz]
            have e2 := mono n (i + 1)
            rw [show i + 1 + n = 5 by omega] at e2
            exact h2 (by omega)
  refine zn_iconst h 0 rfl rfl ?_
  refine zi_istore_n h rfl (Nat.le_of_ble_eq_true rfl) ?_
  exact loop 5 0 (by omega) rfl
set_option maxRecDepth 20000 in
theorem s_k_quiet {fl : Bool} {d : Nat} {f : tw_S} {P : tw_S → Option tw_A → Prop} {c : Nat} (hc : c < 2) (h1 : k_quiet f c → P f (some (tw_I 1))) (h2 : ¬ k_quiet f c → P f (some (tw_I 0))) : tS fl (d + 3) 143 [tw_R 61, tw_I (nI c)] f P := by
  have hcc := hc
  have hcd := p_cd_le (fun j => f 73 (32 * c + j)) 8
  refine tw_Sp_of rfl rfl (Nat.le_of_ble_eq_true rfl) (fun X h => ?_)
  have no : ¬ k_quiet f c → X 32 [some (tw_R 61), some (tw_I (nI c))] [] tx_L0 f := by
    intro g
    refine zn_iconst h 0 rfl rfl ?_
    refine zi_zret h rfl (by first | exact Or.inl rfl | exact Or.inr rfl | exact tw_nz_01 _ | assumption) ?_
    exact h2 g
  refine zi_aload_n h rfl rfl ?_
  refine zg_ref h rfl (by first | rfl | assumption) (by decide) rfl rfl ?_
  refine zi_iload_n h rfl rfl ?_
  refine za_z h rfl (by first | rfl | assumption) rfl (by omega) (by decide) ?_
  first | refine zb_ifeq h rfl (fun hc => ?_) (fun hc => ?_) | refine zc_ifeq h rfl (fun hc => ?_) (fun hc => ?_)
  · exact no (fun g => g.1 hc)
  · have c1 := hc
    refine zi_aload_n h rfl rfl ?_
    refine zg_ref h rfl (by first | rfl | assumption) (by decide) rfl rfl ?_
    refine zi_iload_n h rfl rfl ?_
    refine za_z h rfl (by first | rfl | assumption) rfl (by omega) (by decide) ?_
    first | refine zb_ifne h rfl (fun hc => ?_) (fun hc => ?_) | refine zc_ifne h rfl (fun hc => ?_) (fun hc => ?_)
    · exact no (fun g => hc g.2.1)
    · have c2 := hc
      refine zi_aload_n h rfl rfl ?_
      refine zg_ref h rfl (by first | rfl | assumption) (by decide) rfl rfl ?_
      refine zi_iload_n h rfl rfl ?_
      refine za_i h rfl (by first | rfl | assumption) rfl (by omega) (by decide) ?_
      refine zc_ifge h rfl (fun hc => ?_) (fun hc => ?_)
      · exact no (fun g => g.2.2.1 hc)
      · have c3 := hc
        refine zi_aload_n h rfl rfl ?_
        refine zi_iload_n h rfl rfl ?_
        refine zk_V h [_] rfl (by first | rfl | assumption) rfl rfl (Nat.le_of_ble_eq_true rfl) (s_k_dirtyAll hcc ?_)
        refine zc_ifne h rfl (fun hc => ?_) (fun hc => ?_)
        · exact no (fun g => hc ((nI_zero (by omega)).mpr g.2.2.2.1))
        · have c4 := (nI_zero (by omega)).mp hc
          refine zi_aload_n h rfl rfl ?_
          refine zi_aload_n h rfl rfl ?_
          refine zg_ref h rfl (by first | rfl | assumption) (by decide) rfl rfl ?_
          refine zi_iload_n h rfl rfl ?_
          refine zk_V h [_, _] rfl (by first | rfl | assumption) rfl rfl (Nat.le_of_ble_eq_true rfl) (s_k_lowest hcc (Or.inl rfl) (fun g => ?_) (fun g => ?_))
          · refine zc_ifge h rfl (fun hc => ?_) (fun hc => ?_)
            · exact no (fun u => u.2.2.2.2.1 g)
            · exact absurd (nI_pos' (by omega)) hc
          · refine zc_ifge h rfl (fun hc => ?_) (fun hc => ?_)
            · exact absurd hc (by decide)
            · refine zi_aload_n h rfl rfl ?_
              refine zg_ref h rfl (by first | rfl | assumption) (by decide) rfl rfl ?_
              refine zi_iload_n h rfl rfl ?_
              refine za_i h rfl (by first | rfl | assumption) rfl (by omega) (by decide) ?_
              refine zc_ifge h rfl (fun hc => ?_) (fun hc => ?_)
              · exact no (fun u => u.2.2.2.2.2 hc)
              · refine zn_iconst h 1 rfl rfl ?_
                refine zi_goto h rfl ?_
                refine zi_zret h rfl (by first | exact Or.inl rfl | exact Or.inr rfl | exact tw_nz_01 _ | assumption) ?_
                exact h1 ⟨c1, c2, c3, c4, g, hc⟩
set_option maxRecDepth 20000 in
theorem s_k_one {fl : Bool} {d : Nat} {f : tw_S} {P : tw_S → Option tw_A → Prop} {x : Int32} (hP : P f (some (tw_I (tw_nz x)))) : tS fl (d + 1) 158 [tw_I (tw_nz x)] f P := by
  refine tw_Sp_of rfl rfl (Nat.le_of_ble_eq_true rfl) (fun X h => ?_)
  refine zi_iload_n h rfl rfl ?_
  first | refine zb_ifeq h rfl (fun hc => ?_) (fun hc => ?_) | refine zc_ifeq h rfl (fun hc => ?_) (fun hc => ?_)
  · refine zn_iconst h 0 rfl rfl ?_
    refine zi_iret h rfl ?_
    rw [tw_nz_f hc] at hP
    exact hP
  · refine zn_iconst h 1 rfl rfl ?_
    refine zi_iret h rfl ?_
    rw [tw_nz_t hc] at hP
    exact hP
set_option maxRecDepth 20000 in
theorem s_k_bits {fl : Bool} {d : Nat} {f : tw_S} {P : tw_S → Option tw_A → Prop} {c q : Nat} (hc : c < 2) (hq : q = 77 ∨ q = 78 ∨ q = 79) (hP : P f (some (tw_I (p_bits (fun s => f q (8 * c + s)) 8)))) : tS fl (d + 1) 159 [tw_R 61, tw_R q, tw_I (nI c)] f P := by
  have lq : tx_L0[q]? = some (101, 16, []) := by rcases hq with rfl | rfl | rfl <;> rfl
  refine tw_Sp_of rfl rfl (Nat.le_of_ble_eq_true rfl) (fun X h => ?_)
  have loop : ∀ n i : Nat, i + n = 8 → X 4 [some (tw_R 61), some (tw_R q), some (tw_I (nI c)), some (tw_I (p_bits (fun s => f q (8 * c + s)) i)), some (tw_I (nI i))] [] tx_L0 f := by
    intro n
    induction n with
    | zero =>
      intro i hi
      obtain rfl : i = 8 := by omega
      refine zi_iload h rfl rfl ?_
      refine zn_bipush h 8 rfl rfl ?_
      first | refine zn_icmpge h rfl (by omega) (by omega) (fun hc => ?_) (fun hc => ?_) | refine zc_icmpge h rfl (fun hc => ?_) (fun hc => ?_)
      · refine zi_iload_n h rfl rfl ?_
        refine zi_iret h rfl ?_
        exact hP
      · omega
    | succ n ih =>
      intro i hi
      have ih := ih (i + 1) (by omega)
      refine zi_iload h rfl rfl ?_
      refine zn_bipush h 8 rfl rfl ?_
      first | refine zn_icmpge h rfl (by omega) (by omega) (fun hc => ?_) (fun hc => ?_) | refine zc_icmpge h rfl (fun hc => ?_) (fun hc => ?_)
      · omega
      · refine zi_aload_n h rfl rfl ?_
        refine zn_bipush h 8 rfl rfl ?_
        refine zi_iload_n h rfl rfl ?_
        first | refine zn_imul h rfl ?_ | refine zi_imul h rfl ?_
        refine zi_iload h rfl rfl ?_
        first | refine zn_iadd h rfl ?_ | refine zi_iadd h rfl ?_
        refine za_z h rfl (by first | rfl | assumption) rfl (by omega) (by decide) ?_
        first | refine zb_ifeq h rfl (fun hc => ?_) (fun hc => ?_) | refine zc_ifeq h rfl (fun hc => ?_) (fun hc => ?_)
        · rw [show p_bits (fun s => f q (8 * c + s)) (i + 1) = p_bits (fun s => f q (8 * c + s)) i by simp [p_bits, hc]] at ih
          first | refine zn_iinc h 1 rfl rfl rfl ?_ | refine zi_iinc h rfl rfl ?_
          refine zi_goto h rfl ?_
          exact ih
        · rw [show p_bits (fun s => f q (8 * c + s)) (i + 1) = p_bits (fun s => f q (8 * c + s)) i ||| 1 <<< (nI i &&& 31) by simp [p_bits, hc]] at ih
          refine zi_iload_n h rfl rfl ?_
          refine zn_iconst h 1 rfl rfl ?_
          refine zi_iload h rfl rfl ?_
          refine zi_ishl h rfl ?_
          refine zi_ior h rfl ?_
          refine zi_istore_n h rfl (Nat.le_of_ble_eq_true rfl) ?_
          first | refine zn_iinc h 1 rfl rfl rfl ?_ | refine zi_iinc h rfl rfl ?_
          refine zi_goto h rfl ?_
          exact ih
  refine zn_iconst h 0 rfl rfl ?_
  refine zi_istore_n h rfl (Nat.le_of_ble_eq_true rfl) ?_
  refine zn_iconst h 0 rfl rfl ?_
  refine zi_istore h rfl (Nat.le_of_ble_eq_true rfl) ?_
  exact loop 8 0 (by omega)
