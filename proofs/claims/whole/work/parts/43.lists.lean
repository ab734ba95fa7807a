/-! The late writes (cell 12), the tickets (cell 6), a number in its range. -/
set_option maxRecDepth 20000 in
theorem s_isBlock {fl : Bool} {d : Nat} {f : tw_S} {P : tw_S → Option tw_A → Prop} {x : Int32} (h1 : ∀ j, j < 32 → x = nI j → P f (some (tw_I 1))) (h2 : x < 0 ∨ nI 32 ≤ x → P f (some (tw_I 0))) : tS fl (d + 1) 63 [tw_I x] f P := by
  refine tw_Sp_of rfl rfl (Nat.le_of_ble_eq_true rfl) (fun X h => ?_)
  refine zi_iload_n h rfl rfl ?_
  refine zc_iflt h rfl (fun hc => ?_) (fun hc => ?_)
  · refine zn_iconst h 0 rfl rfl ?_
    refine zi_zret h rfl (by first | exact Or.inl rfl | exact Or.inr rfl | exact tw_nz_01 _ | assumption) ?_
    exact h2 (Or.inl hc)
  · have hc0 := hc
    refine zi_iload_n h rfl rfl ?_
    refine zn_bipush h 32 rfl rfl ?_
    first | refine zn_icmpge h rfl (by omega) (by omega) (fun hc => ?_) (fun hc => ?_) | refine zc_icmpge h rfl (fun hc => ?_) (fun hc => ?_)
    · refine zn_iconst h 0 rfl rfl ?_
      refine zi_zret h rfl (by first | exact Or.inl rfl | exact Or.inr rfl | exact tw_nz_01 _ | assumption) ?_
      exact h2 (Or.inr hc)
    · refine zn_iconst h 1 rfl rfl ?_
      refine zi_goto h rfl ?_
      refine zi_zret h rfl (by first | exact Or.inl rfl | exact Or.inr rfl | exact tw_nz_01 _ | assumption) ?_
      obtain g | g | ⟨j, g1, g2⟩ := pk_ix x (n := 32) (by omega)
      · exact absurd g hc0
      · exact absurd g hc
      · exact h1 j g1 g2
set_option maxRecDepth 20000 in
theorem s_isVolume {fl : Bool} {d : Nat} {f : tw_S} {P : tw_S → Option tw_A → Prop} {x : Int32} (h1 : ∀ j, j < 2 → x = nI j → P f (some (tw_I 1))) (h2 : x < 0 ∨ nI 2 ≤ x → P f (some (tw_I 0))) : tS fl (d + 1) 93 [tw_I x] f P := by
  refine tw_Sp_of rfl rfl (Nat.le_of_ble_eq_true rfl) (fun X h => ?_)
  refine zi_iload_n h rfl rfl ?_
  refine zc_iflt h rfl (fun hc => ?_) (fun hc => ?_)
  · refine zn_iconst h 0 rfl rfl ?_
    refine zi_zret h rfl (by first | exact Or.inl rfl | exact Or.inr rfl | exact tw_nz_01 _ | assumption) ?_
    exact h2 (Or.inl hc)
  · have hc0 := hc
    refine zi_iload_n h rfl rfl ?_
    refine zn_iconst h 2 rfl rfl ?_
    first | refine zn_icmpge h rfl (by omega) (by omega) (fun hc => ?_) (fun hc => ?_) | refine zc_icmpge h rfl (fun hc => ?_) (fun hc => ?_)
    · refine zn_iconst h 0 rfl rfl ?_
      refine zi_zret h rfl (by first | exact Or.inl rfl | exact Or.inr rfl | exact tw_nz_01 _ | assumption) ?_
      exact h2 (Or.inr hc)
    · refine zn_iconst h 1 rfl rfl ?_
      refine zi_goto h rfl ?_
      refine zi_zret h rfl (by first | exact Or.inl rfl | exact Or.inr rfl | exact tw_nz_01 _ | assumption) ?_
      obtain g | g | ⟨j, g1, g2⟩ := pk_ix x (n := 2) (by omega)
      · exact absurd g hc0
      · exact absurd g hc
      · exact h1 j g1 g2
set_option maxRecDepth 20000 in
theorem s_isDisk {fl : Bool} {d : Nat} {f : tw_S} {P : tw_S → Option tw_A → Prop} {x : Int32} (h1 : ∀ j, j < 5 → x = nI j → P f (some (tw_I 1))) (h2 : x < 0 ∨ nI 5 ≤ x → P f (some (tw_I 0))) : tS fl (d + 1) 96 [tw_I x] f P := by
  refine tw_Sp_of rfl rfl (Nat.le_of_ble_eq_true rfl) (fun X h => ?_)
  refine zi_iload_n h rfl rfl ?_
  refine zc_iflt h rfl (fun hc => ?_) (fun hc => ?_)
  · refine zn_iconst h 0 rfl rfl ?_
    refine zi_zret h rfl (by first | exact Or.inl rfl | exact Or.inr rfl | exact tw_nz_01 _ | assumption) ?_
    exact h2 (Or.inl hc)
  · have hc0 := hc
    refine zi_iload_n h rfl rfl ?_
    refine zn_iconst h 5 rfl rfl ?_
    first | refine zn_icmpge h rfl (by omega) (by omega) (fun hc => ?_) (fun hc => ?_) | refine zc_icmpge h rfl (fun hc => ?_) (fun hc => ?_)
    · refine zn_iconst h 0 rfl rfl ?_
      refine zi_zret h rfl (by first | exact Or.inl rfl | exact Or.inr rfl | exact tw_nz_01 _ | assumption) ?_
      exact h2 (Or.inr hc)
    · refine zn_iconst h 1 rfl rfl ?_
      refine zi_goto h rfl ?_
      refine zi_zret h rfl (by first | exact Or.inl rfl | exact Or.inr rfl | exact tw_nz_01 _ | assumption) ?_
      obtain g | g | ⟨j, g1, g2⟩ := pk_ix x (n := 5) (by omega)
      · exact absurd g hc0
      · exact absurd g hc
      · exact h1 j g1 g2
set_option maxRecDepth 20000 in
theorem s_isStripe {fl : Bool} {d : Nat} {f : tw_S} {P : tw_S → Option tw_A → Prop} {x : Int32} (h1 : ∀ j, j < 8 → x = nI j → P f (some (tw_I 1))) (h2 : x < 0 ∨ nI 8 ≤ x → P f (some (tw_I 0))) : tS fl (d + 1) 102 [tw_I x] f P := by
  refine tw_Sp_of rfl rfl (Nat.le_of_ble_eq_true rfl) (fun X h => ?_)
  refine zi_iload_n h rfl rfl ?_
  refine zc_iflt h rfl (fun hc => ?_) (fun hc => ?_)
  · refine zn_iconst h 0 rfl rfl ?_
    refine zi_zret h rfl (by first | exact Or.inl rfl | exact Or.inr rfl | exact tw_nz_01 _ | assumption) ?_
    exact h2 (Or.inl hc)
  · have hc0 := hc
    refine zi_iload_n h rfl rfl ?_
    refine zn_bipush h 8 rfl rfl ?_
    first | refine zn_icmpge h rfl (by omega) (by omega) (fun hc => ?_) (fun hc => ?_) | refine zc_icmpge h rfl (fun hc => ?_) (fun hc => ?_)
    · refine zn_iconst h 0 rfl rfl ?_
      refine zi_zret h rfl (by first | exact Or.inl rfl | exact Or.inr rfl | exact tw_nz_01 _ | assumption) ?_
      exact h2 (Or.inr hc)
    · refine zn_iconst h 1 rfl rfl ?_
      refine zi_goto h rfl ?_
      refine zi_zret h rfl (by first | exact Or.inl rfl | exact Or.inr rfl | exact tw_nz_01 _ | assumption) ?_
      obtain g | g | ⟨j, g1, g2⟩ := pk_ix x (n := 8) (by omega)
      · exact absurd g hc0
      · exact absurd g hc
      · exact h1 j g1 g2
set_option maxRecDepth 20000 in
theorem s_isIn {fl : Bool} {d : Nat} {f : tw_S} {P : tw_S → Option tw_A → Prop} {x : Int32} {n : Nat} (h1 : p_bit x n → P f (some (tw_I 1))) (h2 : ¬ p_bit x n → P f (some (tw_I 0))) : tS fl (d + 1) 5 [tw_I x, tw_I (nI n)] f P := by
  refine tw_Sp_of rfl rfl (Nat.le_of_ble_eq_true rfl) (fun X h => ?_)
  refine zi_iload_n h rfl rfl ?_
  refine zi_iload_n h rfl rfl ?_
  refine zi_ishr h rfl ?_
  refine zn_iconst h 1 rfl rfl ?_
  refine zi_iand h rfl ?_
  refine zn_iconst h 1 rfl rfl ?_
  refine zc_icmpne h rfl (fun hc => ?_) (fun hc => ?_)
  · refine zn_iconst h 0 rfl rfl ?_
    refine zi_zret h rfl (by first | exact Or.inl rfl | exact Or.inr rfl | exact tw_nz_01 _ | assumption) ?_
    exact h2 hc
  · refine zn_iconst h 1 rfl rfl ?_
    refine zi_goto h rfl ?_
    refine zi_zret h rfl (by first | exact Or.inl rfl | exact Or.inr rfl | exact tw_nz_01 _ | assumption) ?_
    exact h1 hc
set_option maxRecDepth 20000 in
theorem s_lowestStripeIn {fl : Bool} {d : Nat} {f : tw_S} {P : tw_S → Option tw_A → Prop} {x : Int32} {g : Nat → Int32} (hg : ∀ s, s < 8 → (g s = 0 ↔ ¬ p_bit x s)) (h1 : p_ft g 8 0 < 8 → P f (some (tw_I (nI (p_ft g 8 0))))) (h2 : ¬ p_ft g 8 0 < 8 → P f (some (tw_I (-1)))) : tS fl (d + 2) 72 [tw_I x] f P := by
  refine tw_Sp_of rfl rfl (Nat.le_of_ble_eq_true rfl) (fun X h => ?_)
  have loop : ∀ m j : Nat, j + m = 8 → p_ft g m j = p_ft g 8 0 → X 2 [some (tw_I x), some (tw_I (nI j))] [] tx_L0 f := by
    intro m
    induction m with
    | zero =>
      intro j hj he
      obtain rfl : j = 8 := by omega
      have he : 8 = p_ft g 8 0 := he
      refine zi_iload_n h rfl rfl ?_
      refine zn_bipush h 8 rfl rfl ?_
      first | refine zn_icmpge h rfl (by omega) (by omega) (fun hc => ?_) (fun hc => ?_) | refine zc_icmpge h rfl (fun hc => ?_) (fun hc => ?_)
      · refine zi_iconst h rfl ?_
        refine zi_iret h rfl ?_
        exact h2 (by omega)
      · omega
    | succ m ih =>
      intro j hj he
      refine zi_iload_n h rfl rfl ?_
      refine zn_bipush h 8 rfl rfl ?_
      first | refine zn_icmpge h rfl (by omega) (by omega) (fun hc => ?_) (fun hc => ?_) | refine zc_icmpge h rfl (fun hc => ?_) (fun hc => ?_)
      · omega
      · refine zi_iload_n h rfl rfl ?_
        refine zi_iload_n h rfl rfl ?_
        refine zk_S h [_, _] rfl rfl rfl (Nat.le_of_ble_eq_true rfl) (s_isIn (fun hb => ?_) (fun hb => ?_))
        · have he : j = p_ft g 8 0 := by
            rw [← he]
            have hz : ¬ g j = 0 := fun z => (hg j (by omega)).mp z hb
            simp [p_ft, hz]
          first | refine zb_ifeq h rfl (fun hc => ?_) (fun hc => ?_) | refine zc_ifeq h rfl (fun hc => ?_) (fun hc => ?_)
          · exact absurd hc (by decide)
          · refine zi_iload_n h rfl rfl ?_
            refine zi_iret h rfl ?_
            have h1 := h1 (by omega)
            rw [← he] at h1
            exact h1
        · have ih := ih (j + 1) (by omega) (by
            rw [← he]
            have hz : g j = 0 := (hg j (by omega)).mpr hb
            simp [p_ft, hz])
          first | refine zb_ifeq h rfl (fun hc => ?_) (fun hc => ?_) | refine zc_ifeq h rfl (fun hc => ?_) (fun hc => ?_)
          · first | refine zn_iinc h 1 rfl rfl rfl ?_ | refine zi_iinc h rfl rfl ?_
            refine zi_goto h rfl ?_
            exact ih
          · exact absurd rfl hc
  refine zn_iconst h 0 rfl rfl ?_
  refine zi_istore_n h rfl (Nat.le_of_ble_eq_true rfl) ?_
  exact loop 8 0 (by omega) rfl
set_option maxRecDepth 20000 in
theorem s_ladd {fl : Bool} {d : Nat} {f : tw_S} {P : tw_S → Option tw_A → Prop} {q m : Nat} (hq : q = 38 ∨ q = 60) (hm : f 12 4 = nI m) (hm2 : m ≤ 20) (h1 : m < 20 → P (tw_up (tw_up (tw_up (tw_up (tw_up f 13 m (f q 1)) 14 m (f q 2)) 15 m (f q 3)) 16 m (f q 4)) 12 4 (nI (m + 1))) none) (h2 : m = 20 → P f none) : tS fl (d + 1) 50 [tw_R 12, tw_R q] f P := by
  have l0 := tx_dwr hq
  refine tw_Sp_of rfl rfl (Nat.le_of_ble_eq_true rfl) (fun X h => ?_)
  refine zi_aload_n h rfl rfl ?_
  refine zg_nat h m rfl (by first | rfl | assumption) (by decide) rfl hm ?_
  refine zn_bipush h 20 rfl rfl ?_
  first | refine zn_icmpge h rfl (by omega) (by omega) (fun hc => ?_) (fun hc => ?_) | refine zc_icmpge h rfl (fun hc => ?_) (fun hc => ?_)
  · refine zi_vret h rfl ?_
    exact h2 (by omega)
  · refine zi_aload_n h rfl rfl ?_
    refine zg_ref h rfl (by first | rfl | assumption) (by decide) rfl rfl ?_
    refine zi_aload_n h rfl rfl ?_
    refine zg_nat h m rfl (by first | rfl | assumption) (by decide) rfl hm ?_
    refine zi_aload_n h rfl rfl ?_
    refine zg_int h rfl (by first | rfl | assumption) (by decide) rfl ?_
    refine zs_i h rfl (by first | rfl | assumption) rfl (by omega) (by decide) ?_
    refine zi_aload_n h rfl rfl ?_
    refine zg_ref h rfl (by first | rfl | assumption) (by decide) rfl rfl ?_
    refine zi_aload_n h rfl rfl ?_
    refine zg_nat h m rfl (by first | rfl | assumption) (by decide) rfl (by simp [tw_up, hm]) ?_
    refine zi_aload_n h rfl rfl ?_
    refine zg_int h rfl (by first | rfl | assumption) (by decide) rfl ?_
    refine zs_i h rfl (by first | rfl | assumption) rfl (by omega) (by decide) ?_
    refine zi_aload_n h rfl rfl ?_
    refine zg_ref h rfl (by first | rfl | assumption) (by decide) rfl rfl ?_
    refine zi_aload_n h rfl rfl ?_
    refine zg_nat h m rfl (by first | rfl | assumption) (by decide) rfl (by simp [tw_up, hm]) ?_
    refine zi_aload_n h rfl rfl ?_
    refine zg_int h rfl (by first | rfl | assumption) (by decide) rfl ?_
    refine zs_i h rfl (by first | rfl | assumption) rfl (by omega) (by decide) ?_
    refine zi_aload_n h rfl rfl ?_
    refine zg_ref h rfl (by first | rfl | assumption) (by decide) rfl rfl ?_
    refine zi_aload_n h rfl rfl ?_
    refine zg_nat h m rfl (by first | rfl | assumption) (by decide) rfl (by simp [tw_up, hm]) ?_
    refine zi_aload_n h rfl rfl ?_
    refine zg_int h rfl (by first | rfl | assumption) (by decide) rfl ?_
    refine zs_i h rfl (by first | rfl | assumption) rfl (by omega) (by decide) ?_
    refine zi_aload_n h rfl rfl ?_
    refine zi_dup h rfl rfl ?_
    refine zg_nat h m rfl (by first | rfl | assumption) (by decide) rfl (by simp [tw_up, hm]) ?_
    refine zn_iconst h 1 rfl rfl ?_
    first | refine zn_iadd h rfl ?_ | refine zi_iadd h rfl ?_
    refine zp_int h rfl (by first | rfl | assumption) (by decide) rfl ?_
    refine zi_vret h rfl ?_
    rcases hq with rfl | rfl
    · refine tw_memP (fun q j => ?_) (h1 hc)
      try simp only [tw_up, tw_n0, tw_n1, tw_n2, false_and, and_false, true_and, and_true, false_or, or_false, if_true, if_false]
      (repeat' split) <;> first | rfl | omega | exact tw_cgf (by omega) (by omega)
    · refine tw_memP (fun q j => ?_) (h1 hc)
      try simp only [tw_up, tw_n0, tw_n1, tw_n2, false_and, and_false, true_and, and_true, false_or, or_false, if_true, if_false]
      (repeat' split) <;> first | rfl | omega | exact tw_cgf (by omega) (by omega)
set_option maxRecDepth 20000 in
theorem s_lhas {fl : Bool} {d : Nat} {f : tw_S} {P : tw_S → Option tw_A → Prop} {m : Nat} {x : Int32} (hm : f 12 4 = nI m) (hm2 : m ≤ 20) (h1 : ∀ j, j < m → x = nI j → P f (some (tw_I 1))) (h2 : x < 0 ∨ nI m ≤ x → P f (some (tw_I 0))) : tS fl (d + 1) 51 [tw_R 12, tw_I x] f P := by
  refine tw_Sp_of rfl rfl (Nat.le_of_ble_eq_true rfl) (fun X h => ?_)
  refine zi_iload_n h rfl rfl ?_
  refine zc_iflt h rfl (fun hc => ?_) (fun hc => ?_)
  · refine zn_iconst h 0 rfl rfl ?_
    refine zi_zret h rfl (by first | exact Or.inl rfl | exact Or.inr rfl | exact tw_nz_01 _ | assumption) ?_
    exact h2 (Or.inl hc)
  · have hc0 := hc
    refine zi_iload_n h rfl rfl ?_
    refine zi_aload_n h rfl rfl ?_
    refine zg_nat h m rfl (by first | rfl | assumption) (by decide) rfl hm ?_
    refine zc_icmpge h rfl (fun hc => ?_) (fun hc => ?_)
    · refine zn_iconst h 0 rfl rfl ?_
      refine zi_zret h rfl (by first | exact Or.inl rfl | exact Or.inr rfl | exact tw_nz_01 _ | assumption) ?_
      exact h2 (Or.inr hc)
    · refine zn_iconst h 1 rfl rfl ?_
      refine zi_goto h rfl ?_
      refine zi_zret h rfl (by first | exact Or.inl rfl | exact Or.inr rfl | exact tw_nz_01 _ | assumption) ?_
      obtain g | g | ⟨j, g1, g2⟩ := pk_ix x (n := m) (by omega)
      · exact absurd g hc0
      · exact absurd g hc
      · exact h1 j g1 g2
set_option maxRecDepth 20000 in
theorem s_lremove {fl : Bool} {d : Nat} {f : tw_S} {P : tw_S → Option tw_A → Prop} {k m : Nat} (hm : f 12 4 = nI m) (hm2 : m ≤ 20) (hk : k < m) (hP : P (fun c j => if 13 ≤ c ∧ c ≤ 16 ∧ k ≤ j ∧ j < m - 1 then f c (j + 1) else if c = 12 ∧ j = 4 then nI (m - 1) else f c j) none) : tS fl (d + 1) 52 [tw_R 12, tw_I (nI k)] f P := by
  refine tw_Sp_of rfl rfl (Nat.le_of_ble_eq_true rfl) (fun X h => ?_)
  have loop : ∀ n i : Nat, i + n = m - 1 → k ≤ i → X 8 [some (tw_R 12), some (tw_I (nI k)), some (tw_I (nI i))] [] tx_L0 (fun c j => if 13 ≤ c ∧ c ≤ 16 ∧ k ≤ j ∧ j < i then f c (j + 1) else if c = 12 ∧ j = 4 then nI (m - 1) else f c j) := by
    intro n
    induction n with
    | zero =>
      intro i hi hki
      obtain rfl : i = m - 1 := by omega
      refine zi_iload_n h rfl rfl ?_
      refine zi_aload_n h rfl rfl ?_
      refine zg_nat h (m-1) rfl (by first | rfl | assumption) (by decide) rfl (by simp) ?_
      first | refine zn_icmpge h rfl (by omega) (by omega) (fun hc => ?_) (fun hc => ?_) | refine zc_icmpge h rfl (fun hc => ?_) (fun hc => ?_)
      · refine zi_vret h rfl ?_
        exact hP
      · omega
    | succ n ih =>
      intro i hi hki
      have ih := ih (i + 1) (by omega) (by omega)
      refine zi_iload_n h rfl rfl ?_
      refine zi_aload_n h rfl rfl ?_
      refine zg_nat h (m-1) rfl (by first | rfl | assumption) (by decide) rfl (by simp) ?_
      first | refine zn_icmpge h rfl (by omega) (by omega) (fun hc => ?_) (fun hc => ?_) | refine zc_icmpge h rfl (fun hc => ?_) (fun hc => ?_)
      · omega
      · refine zi_aload_n h rfl rfl ?_
        refine zg_ref h rfl (by first | rfl | assumption) (by decide) rfl rfl ?_
        refine zi_iload_n h rfl rfl ?_
        refine zi_aload_n h rfl rfl ?_
        refine zg_ref h rfl (by first | rfl | assumption) (by decide) rfl rfl ?_
        refine zi_iload_n h rfl rfl ?_
        refine zn_iconst h 1 rfl rfl ?_
        first | refine zn_iadd h rfl ?_ | refine zi_iadd h rfl ?_
        refine za_i h rfl (by first | rfl | assumption) rfl (by omega) (by decide) ?_
        refine zs_i h rfl (by first | rfl | assumption) rfl (by omega) (by decide) ?_
        show X 22 _ _ _ _
        refine zi_aload_n h rfl rfl ?_
        refine zg_ref h rfl (by first | rfl | assumption) (by decide) rfl rfl ?_
        refine zi_iload_n h rfl rfl ?_
        refine zi_aload_n h rfl rfl ?_
        refine zg_ref h rfl (by first | rfl | assumption) (by decide) rfl rfl ?_
        refine zi_iload_n h rfl rfl ?_
        refine zn_iconst h 1 rfl rfl ?_
        first | refine zn_iadd h rfl ?_ | refine zi_iadd h rfl ?_
        refine za_i h rfl (by first | rfl | assumption) rfl (by omega) (by decide) ?_
        refine zs_i h rfl (by first | rfl | assumption) rfl (by omega) (by decide) ?_
        show X 32 _ _ _ _
        refine zi_aload_n h rfl rfl ?_
        refine zg_ref h rfl (by first | rfl | assumption) (by decide) rfl rfl ?_
        refine zi_iload_n h rfl rfl ?_
        refine zi_aload_n h rfl rfl ?_
        refine zg_ref h rfl (by first | rfl | assumption) (by decide) rfl rfl ?_
        refine zi_iload_n h rfl rfl ?_
        refine zn_iconst h 1 rfl rfl ?_
        first | refine zn_iadd h rfl ?_ | refine zi_iadd h rfl ?_
        refine za_i h rfl (by first | rfl | assumption) rfl (by omega) (by decide) ?_
        refine zs_i h rfl (by first | rfl | assumption) rfl (by omega) (by decide) ?_
        show X 42 _ _ _ _
        refine zi_aload_n h rfl rfl ?_
        refine zg_ref h rfl (by first | rfl | assumption) (by decide) rfl rfl ?_
        refine zi_iload_n h rfl rfl ?_
        refine zi_aload_n h rfl rfl ?_
        refine zg_ref h rfl (by first | rfl | assumption) (by decide) rfl rfl ?_
        refine zi_iload_n h rfl rfl ?_
        refine zn_iconst h 1 rfl rfl ?_
        first | refine zn_iadd h rfl ?_ | refine zi_iadd h rfl ?_
        refine za_i h rfl (by first | rfl | assumption) rfl (by omega) (by decide) ?_
        refine zs_i h rfl (by first | rfl | assumption) rfl (by omega) (by decide) ?_
        show X 52 _ _ _ _
        first | refine zn_iinc h 1 rfl rfl rfl ?_ | refine zi_iinc h rfl rfl ?_
        refine zi_goto h rfl ?_
        refine tw_mem (fun q j => ?_) (ih)
        try simp only [tw_up, tw_n0, tw_n1, tw_n2, false_and, and_false, true_and, and_true, false_or, or_false, if_true, if_false]
        (repeat' split) <;> first | rfl | omega | exact tw_cgf (by omega) (by omega)
  refine zi_aload_n h rfl rfl ?_
  refine zi_dup h rfl rfl ?_
  refine zg_nat h m rfl (by first | rfl | assumption) (by decide) rfl hm ?_
  refine zn_iconst h 1 rfl rfl ?_
  first | refine zn_isub h rfl (by omega) ?_ | refine zi_isub h rfl ?_
  refine zp_int h rfl (by first | rfl | assumption) (by decide) rfl ?_
  refine zi_iload_n h rfl rfl ?_
  refine zi_istore_n h rfl (Nat.le_of_ble_eq_true rfl) ?_
  refine tw_mem (fun q j => ?_) (loop (m - 1 - k) k (by omega) (by omega))
  try simp only [tw_up, tw_n0, tw_n1, tw_n2, false_and, and_false, true_and, and_true, false_or, or_false, if_true, if_false]
  (repeat' split) <;> first | rfl | omega | exact tw_cgf (by omega) (by omega)
set_option maxRecDepth 20000 in
theorem s_areFull {fl : Bool} {d : Nat} {f : tw_S} {P : tw_S → Option tw_A → Prop} {m : Nat} (hm : f 6 5 = nI m) (hm2 : m ≤ 200) (h1 : m = 200 → P f (some (tw_I 1))) (h2 : m < 200 → P f (some (tw_I 0))) : tS fl (d + 1) 54 [tw_R 6] f P := by
  refine tw_Sp_of rfl rfl (Nat.le_of_ble_eq_true rfl) (fun X h => ?_)
  refine zi_aload_n h rfl rfl ?_
  refine zg_nat h m rfl (by first | rfl | assumption) (by decide) rfl hm ?_
  refine zn_sipush h 200 rfl rfl ?_
  first | refine zn_icmplt h rfl (by omega) (by omega) (fun hc => ?_) (fun hc => ?_) | refine zc_icmplt h rfl (fun hc => ?_) (fun hc => ?_)
  · refine zn_iconst h 0 rfl rfl ?_
    refine zi_zret h rfl (by first | exact Or.inl rfl | exact Or.inr rfl | exact tw_nz_01 _ | assumption) ?_
    exact h2 hc
  · refine zn_iconst h 1 rfl rfl ?_
    refine zi_goto h rfl ?_
    refine zi_zret h rfl (by first | exact Or.inl rfl | exact Or.inr rfl | exact tw_nz_01 _ | assumption) ?_
    exact h1 (by omega)
set_option maxRecDepth 20000 in
theorem s_tadd {fl : Bool} {d : Nat} {f : tw_S} {P : tw_S → Option tw_A → Prop} {m : Nat} {s v : Int32} (hm : f 6 5 = nI m) (hm2 : m < 200) (hP : P (tw_up (tw_up (tw_up f 7 m s) 8 m v) 6 5 (nI (m + 1))) (some (tw_I (nI m)))) : tS fl (d + 1) 55 [tw_R 6, tw_I s, tw_I v] f P := by
  refine tw_Sp_of rfl rfl (Nat.le_of_ble_eq_true rfl) (fun X h => ?_)
  refine zi_aload_n h rfl rfl ?_
  refine zg_ref h rfl (by first | rfl | assumption) (by decide) rfl rfl ?_
  refine zi_aload_n h rfl rfl ?_
  refine zg_nat h m rfl (by first | rfl | assumption) (by decide) rfl hm ?_
  refine zi_iload_n h rfl rfl ?_
  refine zs_i h rfl (by first | rfl | assumption) rfl (by omega) (by decide) ?_
  refine zi_aload_n h rfl rfl ?_
  refine zg_ref h rfl (by first | rfl | assumption) (by decide) rfl rfl ?_
  refine zi_aload_n h rfl rfl ?_
  refine zg_nat h m rfl (by first | rfl | assumption) (by decide) rfl (by simp [tw_up, hm]) ?_
  refine zi_iload_n h rfl rfl ?_
  refine zs_i h rfl (by first | rfl | assumption) rfl (by omega) (by decide) ?_
  refine zi_aload_n h rfl rfl ?_
  refine zi_dup h rfl rfl ?_
  refine zg_nat h m rfl (by first | rfl | assumption) (by decide) rfl (by simp [tw_up, hm]) ?_
  refine zn_iconst h 1 rfl rfl ?_
  first | refine zn_iadd h rfl ?_ | refine zi_iadd h rfl ?_
  refine zp_int h rfl (by first | rfl | assumption) (by decide) rfl ?_
  refine zi_aload_n h rfl rfl ?_
  refine zg_nat h (m+1) rfl (by first | rfl | assumption) (by decide) rfl (by simp [tw_up]) ?_
  refine zn_iconst h 1 rfl rfl ?_
  first | refine zn_isub h rfl (by omega) ?_ | refine zi_isub h rfl ?_
  refine zi_iret h rfl ?_
  exact hP
set_option maxRecDepth 20000 in
theorem s_addOpenWrite {fl : Bool} {d : Nat} {f : tw_S} {P : tw_S → Option tw_A → Prop} {m : Nat} {a b c v : Int32} (hm : f 6 5 = nI m) (hm2 : m < 200) (hP : P (tw_up (tw_up (tw_up (tw_up (tw_up (tw_up f 7 m 0) 8 m v) 6 5 (nI (m + 1))) 9 m a) 10 m b) 11 m c) (some (tw_I (nI m)))) : tS fl (d + 2) 56 [tw_R 6, tw_I a, tw_I b, tw_I c, tw_I v] f P := by
  refine tw_Sp_of rfl rfl (Nat.le_of_ble_eq_true rfl) (fun X h => ?_)
  refine zi_aload_n h rfl rfl ?_
  refine zn_iconst h 0 rfl rfl ?_
  refine zi_iload h rfl rfl ?_
  refine zk_V h [_, _] rfl (by first | rfl | assumption) rfl rfl (Nat.le_of_ble_eq_true rfl) (s_tadd hm hm2 ?_)
  refine zi_istore h rfl (Nat.le_of_ble_eq_true rfl) ?_
  refine zi_aload_n h rfl rfl ?_
  refine zg_ref h rfl (by first | rfl | assumption) (by decide) rfl rfl ?_
  refine zi_iload h rfl rfl ?_
  refine zi_iload_n h rfl rfl ?_
  refine zs_i h rfl (by first | rfl | assumption) rfl (by omega) (by decide) ?_
  refine zi_aload_n h rfl rfl ?_
  refine zg_ref h rfl (by first | rfl | assumption) (by decide) rfl rfl ?_
  refine zi_iload h rfl rfl ?_
  refine zi_iload_n h rfl rfl ?_
  show X 14 _ _ _ _
  refine zs_i h rfl (by first | rfl | assumption) rfl (by omega) (by decide) ?_
  refine zi_aload_n h rfl rfl ?_
  refine zg_ref h rfl (by first | rfl | assumption) (by decide) rfl rfl ?_
  refine zi_iload h rfl rfl ?_
  refine zi_iload_n h rfl rfl ?_
  refine zs_i h rfl (by first | rfl | assumption) rfl (by omega) (by decide) ?_
  refine zi_iload h rfl rfl ?_
  refine zi_iret h rfl ?_
  exact hP
set_option maxRecDepth 20000 in
theorem s_refuseOpen {fl : Bool} {d : Nat} {f : tw_S} {P : tw_S → Option tw_A → Prop} {m : Nat} {x : Int32} (hm : f 6 5 = nI m) (hm2 : m ≤ 200) (hP : P (fun c j => if c = 7 ∧ j < m ∧ f 7 j = 0 ∧ f 9 j = x then 2 else f c j) none) : tS fl (d + 1) 57 [tw_R 6, tw_I x] f P := by
  refine tw_Sp_of rfl rfl (Nat.le_of_ble_eq_true rfl) (fun X h => ?_)
  have loop : ∀ n i : Nat, i + n = m → X 2 [some (tw_R 6), some (tw_I x), some (tw_I (nI i))] [] tx_L0 (fun c j => if c = 7 ∧ j < i ∧ f 7 j = 0 ∧ f 9 j = x then 2 else f c j) := by
    intro n
    induction n with
    | zero =>
      intro i hi
      obtain rfl : i = m := by omega
      refine zi_iload_n h rfl rfl ?_
      refine zi_aload_n h rfl rfl ?_
      refine zg_nat h i rfl (by first | rfl | assumption) (by decide) rfl hm ?_
      first | refine zn_icmpge h rfl (by omega) (by omega) (fun hc => ?_) (fun hc => ?_) | refine zc_icmpge h rfl (fun hc => ?_) (fun hc => ?_)
      · refine zi_vret h rfl ?_
        exact hP
      · omega
    | succ n ih =>
      intro i hi
      have ih := ih (i + 1) (by omega)
      refine zi_iload_n h rfl rfl ?_
      refine zi_aload_n h rfl rfl ?_
      refine zg_nat h m rfl (by first | rfl | assumption) (by decide) rfl hm ?_
      first | refine zn_icmpge h rfl (by omega) (by omega) (fun hc => ?_) (fun hc => ?_) | refine zc_icmpge h rfl (fun hc => ?_) (fun hc => ?_)
      · omega
      · refine zi_aload_n h rfl rfl ?_
        refine zg_ref h rfl (by first | rfl | assumption) (by decide) rfl rfl ?_
        refine zi_iload_n h rfl rfl ?_
        refine za_i h rfl (by first | rfl | assumption) rfl (by omega) (by decide) ?_
        refine zc_ifne h rfl (fun hc => ?_) (fun hc => ?_)
        · have h7 : ¬ f 7 i = 0 := by simpa using hc
          first | refine zn_iinc h 1 rfl rfl rfl ?_ | refine zi_iinc h rfl rfl ?_
          refine zi_goto h rfl ?_
          refine tw_mem (fun c j => ?_) ih
          by_cases hj : j = i
          · subst hj
            simp [h7]
          · have e1 : (j < i + 1) = (j < i) := by apply propext; omega
            simp only [e1]
        · have h7 : f 7 i = 0 := by simpa using hc
          refine zi_aload_n h rfl rfl ?_
          refine zg_ref h rfl (by first | rfl | assumption) (by decide) rfl rfl ?_
          refine zi_iload_n h rfl rfl ?_
          refine za_i h rfl (by first | rfl | assumption) rfl (by omega) (by decide) ?_
          refine zi_iload_n h rfl rfl ?_
          refine zc_icmpne h rfl (fun hc => ?_) (fun hc => ?_)
          · have h9 : ¬ f 9 i = x := by simpa using hc
            first | refine zn_iinc h 1 rfl rfl rfl ?_ | refine zi_iinc h rfl rfl ?_
            refine zi_goto h rfl ?_
            refine tw_mem (fun c j => ?_) ih
            by_cases hj : j = i
            · subst hj
              simp [h9]
            · have e1 : (j < i + 1) = (j < i) := by apply propext; omega
              simp only [e1]
          · have h9 : f 9 i = x := by simpa using hc
            refine zi_aload_n h rfl rfl ?_
            refine zg_ref h rfl (by first | rfl | assumption) (by decide) rfl rfl ?_
            refine zi_iload_n h rfl rfl ?_
            refine zn_iconst h 2 rfl rfl ?_
            refine zs_i h rfl (by first | rfl | assumption) rfl (by omega) (by decide) ?_
            first | refine zn_iinc h 1 rfl rfl rfl ?_ | refine zi_iinc h rfl rfl ?_
            refine zi_goto h rfl ?_
            refine tw_mem (fun c j => ?_) ih
            by_cases hj : j = i
            · subst hj
              simp [tw_up, h7, h9, tw_n2]
            · have e1 : (j < i + 1) = (j < i) := by apply propext; omega
              simp [tw_up, e1, hj]
  refine zn_iconst h 0 rfl rfl ?_
  refine zi_istore_n h rfl (Nat.le_of_ble_eq_true rfl) ?_
  refine tw_mem (fun q j => ?_) (loop m 0 (by omega))
  try simp only [tw_up, tw_n0, tw_n1, tw_n2, false_and, and_false, true_and, and_true, false_or, or_false, if_true, if_false]
  (repeat' split) <;> first | rfl | omega | exact tw_cgf (by omega) (by omega)
set_option maxRecDepth 20000 in
theorem s_thas {fl : Bool} {d : Nat} {f : tw_S} {P : tw_S → Option tw_A → Prop} {m : Nat} {x : Int32} (hm : f 6 5 = nI m) (hm2 : m ≤ 200) (h1 : ∀ j, j < m → x = nI j → P f (some (tw_I 1))) (h2 : x < 0 ∨ nI m ≤ x → P f (some (tw_I 0))) : tS fl (d + 1) 58 [tw_R 6, tw_I x] f P := by
  refine tw_Sp_of rfl rfl (Nat.le_of_ble_eq_true rfl) (fun X h => ?_)
  refine zi_iload_n h rfl rfl ?_
  refine zc_iflt h rfl (fun hc => ?_) (fun hc => ?_)
  · refine zn_iconst h 0 rfl rfl ?_
    refine zi_zret h rfl (by first | exact Or.inl rfl | exact Or.inr rfl | exact tw_nz_01 _ | assumption) ?_
    exact h2 (Or.inl hc)
  · have hc0 := hc
    refine zi_iload_n h rfl rfl ?_
    refine zi_aload_n h rfl rfl ?_
    refine zg_nat h m rfl (by first | rfl | assumption) (by decide) rfl hm ?_
    refine zc_icmpge h rfl (fun hc => ?_) (fun hc => ?_)
    · refine zn_iconst h 0 rfl rfl ?_
      refine zi_zret h rfl (by first | exact Or.inl rfl | exact Or.inr rfl | exact tw_nz_01 _ | assumption) ?_
      exact h2 (Or.inr hc)
    · refine zn_iconst h 1 rfl rfl ?_
      refine zi_goto h rfl ?_
      refine zi_zret h rfl (by first | exact Or.inl rfl | exact Or.inr rfl | exact tw_nz_01 _ | assumption) ?_
      obtain g | g | ⟨j, g1, g2⟩ := pk_ix x (n := m) (by omega)
      · exact absurd g hc0
      · exact absurd g hc
      · exact h1 j g1 g2
set_option maxRecDepth 20000 in
theorem s_finish {fl : Bool} {d : Nat} {f : tw_S} {P : tw_S → Option tw_A → Prop} {m : Nat} {x : Int32} (hm : f 6 5 = nI m) (hm2 : m ≤ 200) (h1 : ∀ j, j < m → x = nI j → f 7 j = 0 → P (tw_up f 7 j 1) none) (h2 : (∀ j, j < m → x = nI j → ¬ f 7 j = 0) → P f none) : tS fl (d + 2) 59 [tw_R 6, tw_I x] f P := by
  refine tw_Sp_of rfl rfl (Nat.le_of_ble_eq_true rfl) (fun X h => ?_)
  refine zi_aload_n h rfl rfl ?_
  refine zi_iload_n h rfl rfl ?_
  refine zk_V h [_] rfl (by first | rfl | assumption) rfl rfl (Nat.le_of_ble_eq_true rfl) (s_thas hm hm2 (fun j g1 g2 => ?_) (fun g => ?_))
  · subst g2
    first | refine zb_ifeq h rfl (fun hc => ?_) (fun hc => ?_) | refine zc_ifeq h rfl (fun hc => ?_) (fun hc => ?_)
    · exact absurd hc (by decide)
    · refine zi_aload_n h rfl rfl ?_
      refine zg_ref h rfl (by first | rfl | assumption) (by decide) rfl rfl ?_
      refine zi_iload_n h rfl rfl ?_
      refine za_i h rfl (by first | rfl | assumption) rfl (by omega) (by decide) ?_
      refine zc_ifne h rfl (fun hc => ?_) (fun hc => ?_)
      · refine zi_vret h rfl ?_
        refine h2 (fun i k1 k2 => ?_)
        have := (nI_eq (a := j) (b := i) (by omega) (by omega)).mp k2
        subst this
        exact hc
      · refine zi_aload_n h rfl rfl ?_
        refine zg_ref h rfl (by first | rfl | assumption) (by decide) rfl rfl ?_
        refine zi_iload_n h rfl rfl ?_
        refine zn_iconst h 1 rfl rfl ?_
        refine zs_i h rfl (by first | rfl | assumption) rfl (by omega) (by decide) ?_
        refine zi_vret h rfl ?_
        exact h1 j g1 rfl hc
  · first | refine zb_ifeq h rfl (fun hc => ?_) (fun hc => ?_) | refine zc_ifeq h rfl (fun hc => ?_) (fun hc => ?_)
    · refine zi_vret h rfl ?_
      refine h2 (fun i k1 k2 => ?_)
      subst k2
      rcases g with g | g
      · exact absurd g (nI_pos (by omega))
      · exact absurd ((nI_leI (by omega) (by omega)).mp g) (by omega)
    · exact absurd rfl hc
set_option maxRecDepth 20000 in
theorem s_finishWrites {fl : Bool} {d : Nat} {f : tw_S} {P : tw_S → Option tw_A → Prop} {m : Nat} {x y w : Int32} (hm : f 6 5 = nI m) (hm2 : m ≤ 200) (hP : P (fun c j => if c = 7 ∧ j < m ∧ f 9 j = x ∧ f 10 j = y ∧ ¬ w < f 11 j ∧ f 7 j = 0 then 1 else f c j) none) : tS fl (d + 3) 60 [tw_R 6, tw_I x, tw_I y, tw_I w] f P := by
  refine tw_Sp_of rfl rfl (Nat.le_of_ble_eq_true rfl) (fun X h => ?_)
  have loop : ∀ n i : Nat, i + n = m → X 2 [some (tw_R 6), some (tw_I x), some (tw_I y), some (tw_I w), some (tw_I (nI i))] [] tx_L0 (fun c j => if c = 7 ∧ j < i ∧ f 9 j = x ∧ f 10 j = y ∧ ¬ w < f 11 j ∧ f 7 j = 0 then 1 else f c j) := by
    intro n
    induction n with
    | zero =>
      intro i hi
      obtain rfl : i = m := by omega
      refine zi_iload h rfl rfl ?_
      refine zi_aload_n h rfl rfl ?_
      refine zg_nat h i rfl (by first | rfl | assumption) (by decide) rfl hm ?_
      first | refine zn_icmpge h rfl (by omega) (by omega) (fun hc => ?_) (fun hc => ?_) | refine zc_icmpge h rfl (fun hc => ?_) (fun hc => ?_)
      · refine zi_vret h rfl ?_
        exact hP
      · omega
    | succ n ih =>
      intro i hi
      have ih := ih (i + 1) (by omega)
      have skip : (¬ (f 9 i = x ∧ f 10 i = y ∧ ¬ w < f 11 i ∧ f 7 i = 0)) → X 2 [some (tw_R 6), some (tw_I x), some (tw_I y), some (tw_I w), some (tw_I (nI (i + 1)))] [] tx_L0 (fun c j => if c = 7 ∧ j < i ∧ f 9 j = x ∧ f 10 j = y ∧ ¬ w < f 11 j ∧ f 7 j = 0 then 1 else f c j) := by
        intro hn
        refine tw_mem (fun c j => ?_) ih
        by_cases hj : j = i
        · subst hj
          rw [if_neg (fun g => by omega), if_neg (fun g => hn g.2.2)]
        · have e1 : (j < i + 1) = (j < i) := by apply propext; omega
          simp only [e1]
      refine zi_iload h rfl rfl ?_
      refine zi_aload_n h rfl rfl ?_
      refine zg_nat h m rfl (by first | rfl | assumption) (by decide) rfl hm ?_
      first | refine zn_icmpge h rfl (by omega) (by omega) (fun hc => ?_) (fun hc => ?_) | refine zc_icmpge h rfl (fun hc => ?_) (fun hc => ?_)
      · omega
      · refine zi_aload_n h rfl rfl ?_
        refine zg_ref h rfl (by first | rfl | assumption) (by decide) rfl rfl ?_
        refine zi_iload h rfl rfl ?_
        refine za_i h rfl (by first | rfl | assumption) rfl (by omega) (by decide) ?_
        refine zi_iload_n h rfl rfl ?_
        refine zc_icmpne h rfl (fun hc => ?_) (fun hc => ?_)
        · have h9 : ¬ f 9 i = x := by simpa using hc
          first | refine zn_iinc h 1 rfl rfl rfl ?_ | refine zi_iinc h rfl rfl ?_
          refine zi_goto h rfl ?_
          exact skip (fun g => h9 g.1)
        · have h9 : f 9 i = x := by simpa using hc
          refine zi_aload_n h rfl rfl ?_
          refine zg_ref h rfl (by first | rfl | assumption) (by decide) rfl rfl ?_
          refine zi_iload h rfl rfl ?_
          refine za_i h rfl (by first | rfl | assumption) rfl (by omega) (by decide) ?_
          refine zi_iload_n h rfl rfl ?_
          refine zc_icmpne h rfl (fun hc => ?_) (fun hc => ?_)
          · have h10 : ¬ f 10 i = y := by simpa using hc
            first | refine zn_iinc h 1 rfl rfl rfl ?_ | refine zi_iinc h rfl rfl ?_
            refine zi_goto h rfl ?_
            exact skip (fun g => h10 g.2.1)
          · have h10 : f 10 i = y := by simpa using hc
            refine zi_aload_n h rfl rfl ?_
            refine zg_ref h rfl (by first | rfl | assumption) (by decide) rfl rfl ?_
            refine zi_iload h rfl rfl ?_
            refine za_i h rfl (by first | rfl | assumption) rfl (by omega) (by decide) ?_
            refine zi_iload_n h rfl rfl ?_
            refine zc_icmpgt h rfl (fun hc => ?_) (fun hc => ?_)
            · have h11 : w < f 11 i := by simpa using hc
              first | refine zn_iinc h 1 rfl rfl rfl ?_ | refine zi_iinc h rfl rfl ?_
              refine zi_goto h rfl ?_
              exact skip (fun g => g.2.2.1 h11)
            · have h11 : ¬ w < f 11 i := by simpa using hc
              refine zi_aload_n h rfl rfl ?_
              refine zi_iload h rfl rfl ?_
              refine zk_V h [_] rfl (by first | rfl | assumption) rfl rfl (Nat.le_of_ble_eq_true rfl) (s_finish hm hm2 (fun j g1 g2 g3 => ?_) (fun g => ?_))
              · have := (nI_eq (a := i) (b := j) (by omega) (by omega)).mp g2
                subst this
                have h7 : f 7 i = 0 := by simpa using g3
                first | refine zn_iinc h 1 rfl rfl rfl ?_ | refine zi_iinc h rfl rfl ?_
                refine zi_goto h rfl ?_
                refine tw_mem (fun c j => ?_) ih
                by_cases hj : j = i
                · subst hj
                  simp [tw_up, h7, h9, h10, h11]
                · have e1 : (j < i + 1) = (j < i) := by apply propext; omega
                  simp [tw_up, e1, hj]
              · have h7 : ¬ f 7 i = 0 := by simpa using g i (by omega) rfl
                first | refine zn_iinc h 1 rfl rfl rfl ?_ | refine zi_iinc h rfl rfl ?_
                refine zi_goto h rfl ?_
                exact skip (fun g => h7 g.2.2.2)
  refine zn_iconst h 0 rfl rfl ?_
  refine zi_istore h rfl (Nat.le_of_ble_eq_true rfl) ?_
  refine tw_mem (fun q j => ?_) (loop m 0 (by omega))
  try simp only [tw_up, tw_n0, tw_n1, tw_n2, false_and, and_false, true_and, and_true, false_or, or_false, if_true, if_false]
  (repeat' split) <;> first | rfl | omega | exact tw_cgf (by omega) (by omega)
