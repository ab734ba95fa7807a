/-! The reference: going down, landing, taking over, repairs. -/
set_option maxRecDepth 20000 in
theorem s_k_down {fl : Bool} {d : Nat} {f : tw_S} {P : tw_S → Option tw_A → Prop} {c lm tm : Nat} (hc : c < 2) (hl : f 61 45 = nI lm) (hl2 : lm ≤ 20) (ht : f 61 39 = nI tm) (ht2 : tm ≤ 200) (hP : P (k_down f c) none) : tS fl (d + 1) 116 [tw_R 61, tw_I (nI c)] f P := by
  have hcc := hc
  have el : (f 61 45).toNatClampNeg = lm := by rw [hl]; exact nI_clamp (by omega)
  have et : (f 61 39).toNatClampNeg = tm := by rw [ht]; exact nI_clamp (by omega)
  refine tw_Sp_of rfl rfl (Nat.le_of_ble_eq_true rfl) (fun X h => ?_)
  have rest : X 51 [some (tw_R 61), some (tw_I (nI c)), none] [] tx_L0 (k_late f c) := by
    have e39 : k_late f c 61 39 = nI tm := by rw [k_late_39]; exact ht
    rw [k_down, et] at hP
    generalize k_late f c = g at e39 hP
    have loop3 : ∀ n i : Nat, i + n = 8 → X 167 [some (tw_R 61), some (tw_I (nI c)), some (tw_I (nI i))] [] tx_L0 (k_z3 (k_z3 (k_flags (k_ref g (nI c) tm) c) 70 73 74 (32 * c) 32) 77 78 79 (8 * c) i) := by
      intro n
      induction n with
      | zero =>
        intro i hi
        obtain rfl : i = 8 := by omega
        refine zi_iload_n h rfl rfl ?_
        refine zn_bipush h 8 rfl rfl ?_
        first | refine zn_icmpge h rfl (by omega) (by omega) (fun hc => ?_) (fun hc => ?_) | refine zc_icmpge h rfl (fun hc => ?_) (fun hc => ?_)
        · refine zi_vret h rfl ?_
          exact hP
        · omega
      | succ n ih =>
        intro i hi
        have ih := ih (i + 1) (by omega)
        refine zi_iload_n h rfl rfl ?_
        refine zn_bipush h 8 rfl rfl ?_
        first | refine zn_icmpge h rfl (by omega) (by omega) (fun hc => ?_) (fun hc => ?_) | refine zc_icmpge h rfl (fun hc => ?_) (fun hc => ?_)
        · omega
        · refine zi_aload_n h rfl rfl ?_
          refine zg_ref h rfl (by first | rfl | assumption) (by decide) rfl rfl ?_
          refine zn_bipush h 8 rfl rfl ?_
          refine zi_iload_n h rfl rfl ?_
          first | refine zn_imul h rfl ?_ | refine zi_imul h rfl ?_
          refine zi_iload_n h rfl rfl ?_
          first | refine zn_iadd h rfl ?_ | refine zi_iadd h rfl ?_
          refine zn_iconst h 0 rfl rfl ?_
          refine zs_z h rfl (by first | rfl | assumption) rfl (by omega) (by decide) (by first | exact Or.inl rfl | exact Or.inr rfl | exact tw_nz_01 _ | assumption) ?_
          refine zi_aload_n h rfl rfl ?_
          show X 180 _ _ _ _
          refine zg_ref h rfl (by first | rfl | assumption) (by decide) rfl rfl ?_
          refine zn_bipush h 8 rfl rfl ?_
          refine zi_iload_n h rfl rfl ?_
          first | refine zn_imul h rfl ?_ | refine zi_imul h rfl ?_
          refine zi_iload_n h rfl rfl ?_
          first | refine zn_iadd h rfl ?_ | refine zi_iadd h rfl ?_
          refine zn_iconst h 0 rfl rfl ?_
          refine zs_z h rfl (by first | rfl | assumption) rfl (by omega) (by decide) (by first | exact Or.inl rfl | exact Or.inr rfl | exact tw_nz_01 _ | assumption) ?_
          refine zi_aload_n h rfl rfl ?_
          refine zg_ref h rfl (by first | rfl | assumption) (by decide) rfl rfl ?_
          show X 190 _ _ _ _
          refine zn_bipush h 8 rfl rfl ?_
          refine zi_iload_n h rfl rfl ?_
          first | refine zn_imul h rfl ?_ | refine zi_imul h rfl ?_
          refine zi_iload_n h rfl rfl ?_
          first | refine zn_iadd h rfl ?_ | refine zi_iadd h rfl ?_
          refine zn_iconst h 0 rfl rfl ?_
          refine zs_z h rfl (by first | rfl | assumption) rfl (by omega) (by decide) (by first | exact Or.inl rfl | exact Or.inr rfl | exact tw_nz_01 _ | assumption) ?_
          first | refine zn_iinc h 1 rfl rfl rfl ?_ | refine zi_iinc h rfl rfl ?_
          refine zi_goto h rfl ?_
          refine tw_mem (fun q j => ?_) ih
          generalize k_z3 (k_flags (k_ref g (nI c) tm) c) 70 73 74 (32 * c) 32 = w
          simp only [tw_up, k_z3, tw_n0]
          (repeat' split) <;> first | rfl | omega
    have loop2 : ∀ n i : Nat, i + n = 32 → X 133 [some (tw_R 61), some (tw_I (nI c)), some (tw_I (nI i))] [] tx_L0 (k_z3 (k_flags (k_ref g (nI c) tm) c) 70 73 74 (32 * c) i) := by
      intro n
      induction n with
      | zero =>
        intro i hi
        obtain rfl : i = 32 := by omega
        refine zi_iload_n h rfl rfl ?_
        refine zn_bipush h 32 rfl rfl ?_
        first | refine zn_icmpge h rfl (by omega) (by omega) (fun hc => ?_) (fun hc => ?_) | refine zc_icmpge h rfl (fun hc => ?_) (fun hc => ?_)
        · refine zn_iconst h 0 rfl rfl ?_
          refine zi_istore_n h rfl (Nat.le_of_ble_eq_true rfl) ?_
          refine tw_mem (fun q j => ?_) (loop3 8 0 (by omega))
          generalize k_z3 (k_flags (k_ref g (nI c) tm) c) 70 73 74 (32 * c) 32 = w
          simp only [k_z3]
          rw [if_neg (by omega)]
        · omega
      | succ n ih =>
        intro i hi
        have ih := ih (i + 1) (by omega)
        refine zi_iload_n h rfl rfl ?_
        refine zn_bipush h 32 rfl rfl ?_
        first | refine zn_icmpge h rfl (by omega) (by omega) (fun hc => ?_) (fun hc => ?_) | refine zc_icmpge h rfl (fun hc => ?_) (fun hc => ?_)
        · omega
        · refine zi_aload_n h rfl rfl ?_
          refine zg_ref h rfl (by first | rfl | assumption) (by decide) rfl rfl ?_
          refine zn_bipush h 32 rfl rfl ?_
          refine zi_iload_n h rfl rfl ?_
          first | refine zn_imul h rfl ?_ | refine zi_imul h rfl ?_
          refine zi_iload_n h rfl rfl ?_
          first | refine zn_iadd h rfl ?_ | refine zi_iadd h rfl ?_
          refine zn_iconst h 0 rfl rfl ?_
          refine zs_z h rfl (by first | rfl | assumption) rfl (by omega) (by decide) (by first | exact Or.inl rfl | exact Or.inr rfl | exact tw_nz_01 _ | assumption) ?_
          refine zi_aload_n h rfl rfl ?_
          show X 146 _ _ _ _
          refine zg_ref h rfl (by first | rfl | assumption) (by decide) rfl rfl ?_
          refine zn_bipush h 32 rfl rfl ?_
          refine zi_iload_n h rfl rfl ?_
          first | refine zn_imul h rfl ?_ | refine zi_imul h rfl ?_
          refine zi_iload_n h rfl rfl ?_
          first | refine zn_iadd h rfl ?_ | refine zi_iadd h rfl ?_
          refine zn_iconst h 0 rfl rfl ?_
          refine zs_z h rfl (by first | rfl | assumption) rfl (by omega) (by decide) (by first | exact Or.inl rfl | exact Or.inr rfl | exact tw_nz_01 _ | assumption) ?_
          refine zi_aload_n h rfl rfl ?_
          refine zg_ref h rfl (by first | rfl | assumption) (by decide) rfl rfl ?_
          show X 156 _ _ _ _
          refine zn_bipush h 32 rfl rfl ?_
          refine zi_iload_n h rfl rfl ?_
          first | refine zn_imul h rfl ?_ | refine zi_imul h rfl ?_
          refine zi_iload_n h rfl rfl ?_
          first | refine zn_iadd h rfl ?_ | refine zi_iadd h rfl ?_
          refine zn_iconst h 0 rfl rfl ?_
          refine zs_z h rfl (by first | rfl | assumption) rfl (by omega) (by decide) (by first | exact Or.inl rfl | exact Or.inr rfl | exact tw_nz_01 _ | assumption) ?_
          first | refine zn_iinc h 1 rfl rfl rfl ?_ | refine zi_iinc h rfl rfl ?_
          refine zi_goto h rfl ?_
          refine tw_mem (fun q j => ?_) ih
          generalize k_flags (k_ref g (nI c) tm) c = w
          simp only [tw_up, k_z3, tw_n0]
          (repeat' split) <;> first | rfl | omega
    have loop1 : ∀ n i : Nat, i + n = tm → X 53 [some (tw_R 61), some (tw_I (nI c)), some (tw_I (nI i))] [] tx_L0 (k_ref g (nI c) i) := by
      intro n
      induction n with
      | zero =>
        intro i hi
        obtain rfl : i = tm := by omega
        refine zi_iload_n h rfl rfl ?_
        refine zi_aload_n h rfl rfl ?_
        refine zg_nat h i rfl (by first | rfl | assumption) (by decide) rfl e39 ?_
        first | refine zn_icmpge h rfl (by omega) (by omega) (fun hc => ?_) (fun hc => ?_) | refine zc_icmpge h rfl (fun hc => ?_) (fun hc => ?_)
        · refine zi_aload_n h rfl rfl ?_
          refine zg_ref h rfl (by first | rfl | assumption) (by decide) rfl rfl ?_
          refine zi_iload_n h rfl rfl ?_
          refine zn_iconst h 0 rfl rfl ?_
          refine zs_z h rfl (by first | rfl | assumption) rfl (by omega) (by decide) (by first | exact Or.inl rfl | exact Or.inr rfl | exact tw_nz_01 _ | assumption) ?_
          refine zi_aload_n h rfl rfl ?_
          refine zg_ref h rfl (by first | rfl | assumption) (by decide) rfl rfl ?_
          refine zi_iload_n h rfl rfl ?_
          refine zn_iconst h 0 rfl rfl ?_
          refine zs_z h rfl (by first | rfl | assumption) rfl (by omega) (by decide) (by first | exact Or.inl rfl | exact Or.inr rfl | exact tw_nz_01 _ | assumption) ?_
          show X 85 _ _ _ _
          refine zi_aload_n h rfl rfl ?_
          refine zg_ref h rfl (by first | rfl | assumption) (by decide) rfl rfl ?_
          refine zi_iload_n h rfl rfl ?_
          refine zi_iconst h rfl ?_
          refine zs_i h rfl (by first | rfl | assumption) rfl (by omega) (by decide) ?_
          refine zi_aload_n h rfl rfl ?_
          refine zg_ref h rfl (by first | rfl | assumption) (by decide) rfl rfl ?_
          refine zi_iload_n h rfl rfl ?_
          refine zn_iconst h 0 rfl rfl ?_
          refine zs_z h rfl (by first | rfl | assumption) rfl (by omega) (by decide) (by first | exact Or.inl rfl | exact Or.inr rfl | exact tw_nz_01 _ | assumption) ?_
          show X 95 _ _ _ _
          refine zi_aload_n h rfl rfl ?_
          refine zg_ref h rfl (by first | rfl | assumption) (by decide) rfl rfl ?_
          refine zi_iload_n h rfl rfl ?_
          refine zi_iconst h rfl ?_
          refine zs_i h rfl (by first | rfl | assumption) rfl (by omega) (by decide) ?_
          refine zi_aload_n h rfl rfl ?_
          refine zg_ref h rfl (by first | rfl | assumption) (by decide) rfl rfl ?_
          refine zi_iload_n h rfl rfl ?_
          refine zn_iconst h 0 rfl rfl ?_
          refine zs_z h rfl (by first | rfl | assumption) rfl (by omega) (by decide) (by first | exact Or.inl rfl | exact Or.inr rfl | exact tw_nz_01 _ | assumption) ?_
          show X 105 _ _ _ _
          refine zi_aload_n h rfl rfl ?_
          refine zg_ref h rfl (by first | rfl | assumption) (by decide) rfl rfl ?_
          refine zi_iload_n h rfl rfl ?_
          refine zn_iconst h 0 rfl rfl ?_
          refine zs_i h rfl (by first | rfl | assumption) rfl (by omega) (by decide) ?_
          refine zi_aload_n h rfl rfl ?_
          refine zg_ref h rfl (by first | rfl | assumption) (by decide) rfl rfl ?_
          refine zi_iload_n h rfl rfl ?_
          refine zn_iconst h 0 rfl rfl ?_
          refine zs_i h rfl (by first | rfl | assumption) rfl (by omega) (by decide) ?_
          show X 115 _ _ _ _
          refine zi_aload_n h rfl rfl ?_
          refine zg_ref h rfl (by first | rfl | assumption) (by decide) rfl rfl ?_
          refine zn_iconst h 2 rfl rfl ?_
          refine zi_iload_n h rfl rfl ?_
          first | refine zn_imul h rfl ?_ | refine zi_imul h rfl ?_
          refine zn_iconst h 0 rfl rfl ?_
          refine zs_z h rfl (by first | rfl | assumption) rfl (by omega) (by decide) (by first | exact Or.inl rfl | exact Or.inr rfl | exact tw_nz_01 _ | assumption) ?_
          refine zi_aload_n h rfl rfl ?_
          refine zg_ref h rfl (by first | rfl | assumption) (by decide) rfl rfl ?_
          refine zn_iconst h 2 rfl rfl ?_
          show X 125 _ _ _ _
          refine zi_iload_n h rfl rfl ?_
          first | refine zn_imul h rfl ?_ | refine zi_imul h rfl ?_
          refine zn_iconst h 1 rfl rfl ?_
          first | refine zn_iadd h rfl ?_ | refine zi_iadd h rfl ?_
          refine zn_iconst h 0 rfl rfl ?_
          refine zs_z h rfl (by first | rfl | assumption) rfl (by omega) (by decide) (by first | exact Or.inl rfl | exact Or.inr rfl | exact tw_nz_01 _ | assumption) ?_
          refine zn_iconst h 0 rfl rfl ?_
          refine zi_istore_n h rfl (Nat.le_of_ble_eq_true rfl) ?_
          refine tw_mem (fun q j => ?_) (loop2 32 0 (by omega))
          generalize k_ref g (nI c) i = w
          rw [k_z3, if_neg (by omega)]
          rfl
        · omega
      | succ n ih =>
        intro i hi
        have ih := ih (i + 1) (by omega)
        have skip : ¬ (g 101 i = nI c ∧ g 99 i = 0) → X 53 [some (tw_R 61), some (tw_I (nI c)), some (tw_I (nI (i + 1)))] [] tx_L0 (k_ref g (nI c) i) := by
          intro hn
          refine tw_mem (fun q j => ?_) ih
          unfold k_ref
          by_cases hj : j = i
          · subst hj
            rw [if_neg (by omega), if_neg (fun u => hn u.2.2)]
          · have e1 : (j < i + 1) = (j < i) := by apply propext; omega
            simp only [e1]
        have r101 : k_ref g (nI c) i 101 i = g 101 i := if_neg (by omega)
        have r99 : k_ref g (nI c) i 99 i = g 99 i := if_neg (by omega)
        refine zi_iload_n h rfl rfl ?_
        refine zi_aload_n h rfl rfl ?_
        refine zg_nat h tm rfl (by first | rfl | assumption) (by decide) rfl e39 ?_
        first | refine zn_icmpge h rfl (by omega) (by omega) (fun hc => ?_) (fun hc => ?_) | refine zc_icmpge h rfl (fun hc => ?_) (fun hc => ?_)
        · omega
        · refine zi_aload_n h rfl rfl ?_
          refine zg_ref h rfl (by first | rfl | assumption) (by decide) rfl rfl ?_
          refine zi_iload_n h rfl rfl ?_
          refine za_i h rfl (by first | rfl | assumption) rfl (by omega) (by decide) ?_
          refine zi_iload_n h rfl rfl ?_
          rw [r101]
          refine zc_icmpne h rfl (fun hc => ?_) (fun hc => ?_)
          · first | refine zn_iinc h 1 rfl rfl rfl ?_ | refine zi_iinc h rfl rfl ?_
            refine zi_goto h rfl ?_
            exact skip (fun u => hc u.1)
          · have c1 := hc
            refine zi_aload_n h rfl rfl ?_
            refine zg_ref h rfl (by first | rfl | assumption) (by decide) rfl rfl ?_
            refine zi_iload_n h rfl rfl ?_
            refine za_i h rfl (by first | rfl | assumption) rfl (by omega) (by decide) ?_
            rw [r99]
            refine zc_ifne h rfl (fun hc => ?_) (fun hc => ?_)
            · first | refine zn_iinc h 1 rfl rfl rfl ?_ | refine zi_iinc h rfl rfl ?_
              refine zi_goto h rfl ?_
              exact skip (fun u => hc u.2)
            · refine zi_aload_n h rfl rfl ?_
              refine zg_ref h rfl (by first | rfl | assumption) (by decide) rfl rfl ?_
              refine zi_iload_n h rfl rfl ?_
              refine zn_iconst h 2 rfl rfl ?_
              refine zs_i h rfl (by first | rfl | assumption) rfl (by omega) (by decide) ?_
              first | refine zn_iinc h 1 rfl rfl rfl ?_ | refine zi_iinc h rfl rfl ?_
              refine zi_goto h rfl ?_
              refine tw_mem (fun q j => ?_) ih
              unfold k_ref tw_up
              by_cases hj : j = i
              · subst hj
                by_cases hq : q = 99
                · subst hq
                  simp [c1, hc, tw_n2]
                · simp [hq]
              · have e1 : (j < i + 1) = (j < i) := by apply propext; omega
                simp [e1, hj]
    refine zn_iconst h 0 rfl rfl ?_
    refine zi_istore_n h rfl (Nat.le_of_ble_eq_true rfl) ?_
    refine tw_mem (fun q j => ?_) (loop1 tm 0 (by omega))
    rw [k_ref, if_neg (by omega)]
  refine zi_aload_n h rfl rfl ?_
  refine zg_ref h rfl (by first | rfl | assumption) (by decide) rfl rfl ?_
  refine zi_iload_n h rfl rfl ?_
  refine za_i h rfl (by first | rfl | assumption) rfl (by omega) (by decide) ?_
  refine zc_iflt h rfl (fun hc => ?_) (fun hc => ?_)
  · rw [k_late, if_pos (Or.inl hc)] at rest
    exact rest
  · have c80 := hc
    refine zi_aload_n h rfl rfl ?_
    refine zg_nat h lm rfl (by first | rfl | assumption) (by decide) rfl hl ?_
    refine zn_bipush h 20 rfl rfl ?_
    first | refine zn_icmpge h rfl (by omega) (by omega) (fun hc => ?_) (fun hc => ?_) | refine zc_icmpge h rfl (fun hc => ?_) (fun hc => ?_)
    · rw [k_late, if_pos (Or.inr (by omega))] at rest
      exact rest
    · rw [k_late, if_neg (fun u => u.elim c80 (fun v => v (by omega))), el, hl, nI_1] at rest
      refine zi_aload_n h rfl rfl ?_
      refine zg_ref h rfl (by first | rfl | assumption) (by decide) rfl rfl ?_
      refine zi_aload_n h rfl rfl ?_
      refine zg_nat h lm rfl (by first | rfl | assumption) (by decide) rfl hl ?_
      refine zi_aload_n h rfl rfl ?_
      refine zg_ref h rfl (by first | rfl | assumption) (by decide) rfl rfl ?_
      refine zi_iload_n h rfl rfl ?_
      refine za_i h rfl (by first | rfl | assumption) rfl (by omega) (by decide) ?_
      refine zs_i h rfl (by first | rfl | assumption) rfl (by omega) (by decide) ?_
      refine zi_aload_n h rfl rfl ?_
      refine zg_ref h rfl (by first | rfl | assumption) (by decide) rfl rfl ?_
      refine zi_aload_n h rfl rfl ?_
      refine zg_nat h lm rfl (by first | rfl | assumption) (by decide) rfl (by simp [tw_up, hl]) ?_
      refine zi_aload_n h rfl rfl ?_
      refine zg_ref h rfl (by first | rfl | assumption) (by decide) rfl rfl ?_
      refine zi_iload_n h rfl rfl ?_
      refine za_i h rfl (by first | rfl | assumption) rfl (by omega) (by decide) ?_
      refine zs_i h rfl (by first | rfl | assumption) rfl (by omega) (by decide) ?_
      refine zi_aload_n h rfl rfl ?_
      refine zg_ref h rfl (by first | rfl | assumption) (by decide) rfl rfl ?_
      refine zi_aload_n h rfl rfl ?_
      refine zg_nat h lm rfl (by first | rfl | assumption) (by decide) rfl (by simp [tw_up, hl]) ?_
      refine zi_aload_n h rfl rfl ?_
      refine zg_ref h rfl (by first | rfl | assumption) (by decide) rfl rfl ?_
      refine zi_iload_n h rfl rfl ?_
      refine za_i h rfl (by first | rfl | assumption) rfl (by omega) (by decide) ?_
      refine zs_i h rfl (by first | rfl | assumption) rfl (by omega) (by decide) ?_
      refine zi_aload_n h rfl rfl ?_
      refine zg_ref h rfl (by first | rfl | assumption) (by decide) rfl rfl ?_
      refine zi_aload_n h rfl rfl ?_
      refine zg_nat h lm rfl (by first | rfl | assumption) (by decide) rfl (by simp [tw_up, hl]) ?_
      refine zi_aload_n h rfl rfl ?_
      refine zg_ref h rfl (by first | rfl | assumption) (by decide) rfl rfl ?_
      refine zi_iload_n h rfl rfl ?_
      refine za_i h rfl (by first | rfl | assumption) rfl (by omega) (by decide) ?_
      refine zs_i h rfl (by first | rfl | assumption) rfl (by omega) (by decide) ?_
      refine zi_aload_n h rfl rfl ?_
      refine zi_dup h rfl rfl ?_
      refine zg_nat h lm rfl (by first | rfl | assumption) (by decide) rfl (by simp [tw_up, hl]) ?_
      refine zn_iconst h 1 rfl rfl ?_
      first | refine zn_iadd h rfl ?_ | refine zi_iadd h rfl ?_
      refine zp_int h rfl (by first | rfl | assumption) (by decide) rfl ?_
      refine tw_mem (fun q j => ?_) rest
      have e1 : tw_up f 104 lm (f 80 c) 81 c = f 81 c := tw_off (by omega)
      have e2 : tw_up (tw_up f 104 lm (f 80 c)) 105 lm (f 81 c) 82 c = f 82 c := by rw [tw_off (by omega), tw_off (by omega)]
      have e3 : tw_up (tw_up (tw_up f 104 lm (f 80 c)) 105 lm (f 81 c)) 106 lm (f 82 c) 83 c = f 83 c := by rw [tw_off (by omega), tw_off (by omega), tw_off (by omega)]
      rw [e1, e2, e3]
set_option maxRecDepth 20000 in
theorem s_k_lands_step {fl : Bool} {d : Nat} {f : tw_S} {P : tw_S → Option tw_A → Prop} {c lm tm i s : Nat} (hc : c < 2) (hl : f 61 45 = nI lm) (hl2 : lm ≤ 20) (ht : f 61 39 = nI tm) (ht2 : tm ≤ 200) (hi : f 80 c = nI i) (hi2 : i < 5) (hs : f 81 c = nI s) (hs2 : s < 8) (h1 : f 62 i = 0 → P (tw_up f 80 c (-1)) none) (h2 : ¬ f 62 i = 0 → f 63 i = f 83 c → P (k_put (tw_up f 80 c (-1)) i s (f 82 c)) none) (h3 : ¬ f 62 i = 0 → ¬ f 63 i = f 83 c → P (k_down (tw_up f 80 c (-1)) c) none) : tS fl (d + 2) 128 [tw_R 61, tw_I (nI c)] f P := by
  have hcc := hc
  have e2 : tw_up f 80 c (-1) 62 i = f 62 i := tw_off (by omega)
  have e3 : tw_up f 80 c (-1) 63 i = f 63 i := tw_off (by omega)
  have e4 : tw_up f 80 c (-1) 83 c = f 83 c := tw_off (by omega)
  have e5 : tw_up f 80 c (-1) 82 c = f 82 c := tw_off (by omega)
  refine tw_Sp_of rfl rfl (Nat.le_of_ble_eq_true rfl) (fun X h => ?_)
  refine zi_aload_n h rfl rfl ?_
  refine zg_ref h rfl (by first | rfl | assumption) (by decide) rfl rfl ?_
  refine zi_iload_n h rfl rfl ?_
  refine za_n h i rfl (by first | rfl | assumption) rfl (by omega) (by decide) hi ?_
  refine zi_istore_n h rfl (Nat.le_of_ble_eq_true rfl) ?_
  refine zi_aload_n h rfl rfl ?_
  refine zg_ref h rfl (by first | rfl | assumption) (by decide) rfl rfl ?_
  refine zi_iload_n h rfl rfl ?_
  refine zi_iconst h rfl ?_
  refine zs_i h rfl (by first | rfl | assumption) rfl (by omega) (by decide) ?_
  refine zi_aload_n h rfl rfl ?_
  refine zg_ref h rfl (by first | rfl | assumption) (by decide) rfl rfl ?_
  refine zi_iload_n h rfl rfl ?_
  refine za_z h rfl (by first | rfl | assumption) rfl (by omega) (by decide) ?_
  show X 14 _ _ _ _
  first | refine zb_ifne h rfl (fun hc => ?_) (fun hc => ?_) | refine zc_ifne h rfl (fun hc => ?_) (fun hc => ?_)
  · have c1 : ¬ f 62 i = 0 := fun g => hc (e2.trans g)
    refine zi_aload_n h rfl rfl ?_
    refine zg_ref h rfl (by first | rfl | assumption) (by decide) rfl rfl ?_
    refine zi_iload_n h rfl rfl ?_
    refine za_i h rfl (by first | rfl | assumption) rfl (by omega) (by decide) ?_
    refine zi_aload_n h rfl rfl ?_
    refine zg_ref h rfl (by first | rfl | assumption) (by decide) rfl rfl ?_
    refine zi_iload_n h rfl rfl ?_
    refine za_i h rfl (by first | rfl | assumption) rfl (by omega) (by decide) ?_
    rw [e3, e4]
    refine zc_icmpne h rfl (fun hc => ?_) (fun hc => ?_)
    · refine zi_aload_n h rfl rfl ?_
      refine zi_iload_n h rfl rfl ?_
      refine zk_V h [_] rfl (by first | rfl | assumption) rfl rfl (Nat.le_of_ble_eq_true rfl) (s_k_down hcc (by rw [tw_off (by omega)]; exact hl) hl2 (by rw [tw_off (by omega)]; exact ht) ht2 ?_)
      refine zi_vret h rfl ?_
      exact h3 c1 hc
    · refine zi_aload_n h rfl rfl ?_
      refine zi_iload_n h rfl rfl ?_
      refine zi_aload_n h rfl rfl ?_
      refine zg_ref h rfl (by first | rfl | assumption) (by decide) rfl rfl ?_
      refine zi_iload_n h rfl rfl ?_
      refine za_n h s rfl (by first | rfl | assumption) rfl (by omega) (by decide) (by rw [tw_off (by omega)]; exact hs) ?_
      refine zi_aload_n h rfl rfl ?_
      refine zg_ref h rfl (by first | rfl | assumption) (by decide) rfl rfl ?_
      refine zi_iload_n h rfl rfl ?_
      refine za_i h rfl (by first | rfl | assumption) rfl (by omega) (by decide) ?_
      refine zk_V h [_, _, _] rfl (by first | rfl | assumption) rfl rfl (Nat.le_of_ble_eq_true rfl) (s_k_lands hi2 hs2 ?_)
      refine zi_goto h rfl ?_
      refine zi_vret h rfl ?_
      have h2 := h2 c1 hc
      rw [← e5] at h2
      exact h2
  · refine zi_vret h rfl ?_
    exact h1 (e2.symm.trans hc)
set_option maxRecDepth 20000 in
theorem s_k_takes {fl : Bool} {d : Nat} {f : tw_S} {P : tw_S → Option tw_A → Prop} {c lm tm i n g : Nat} (hc : c < 2) (hl : f 61 45 = nI lm) (hl2 : lm ≤ 20) (ht : f 61 39 = nI tm) (ht2 : tm ≤ 200) (hi : f 85 c = nI i) (hn : i + n = 5) (hg : f 96 c = nI g) (h1 : p_ft (f 62) n i < 5 → P (tw_up (tw_up (tw_up f 63 (p_ft (f 62) n i) (f 67 c)) 85 c (nI (p_ft (f 62) n i + 1))) 86 c (f 86 c + 1)) none) (h2 : ¬ p_ft (f 62) n i < 5 → ¬ 4 ≤ f 86 c → P (k_down (tw_up (tw_up f 85 c (nI 5)) 84 c 0) c) none) (h3 : ¬ p_ft (f 62) n i < 5 → 4 ≤ f 86 c → P (k_rk (k_tk (tw_up (tw_up (tw_up (tw_up f 85 c (nI 5)) 84 c 0) 69 (2 * c) 1) 69 (2 * c + 1) 1) c g 32) c 8) none) : tS fl (d + 2) 129 [tw_R 61, tw_I (nI c)] f P := by
  have hcc := hc
  refine tw_Sp_of rfl rfl (Nat.le_of_ble_eq_true rfl) (fun X h => ?_)
  have off : ∀ (a b : Nat) (x : Int32), a ≠ 85 → tw_up f 85 c x a b = f a b := fun a b x u => tw_off (by omega)
  have done : ∀ k : Nat, k = p_ft (f 62) n i → k ≤ 5 → X 23 [some (tw_R 61), some (tw_I (nI c)), none] [] tx_L0 (tw_up f 85 c (nI k)) := by
    intro k hk hk5
    refine zi_aload_n h rfl rfl ?_
    refine zg_ref h rfl (by first | rfl | assumption) (by decide) rfl rfl ?_
    refine zi_iload_n h rfl rfl ?_
    refine za_n h k rfl (by first | rfl | assumption) rfl (by omega) (by decide) (by simp [tw_up]) ?_
    refine zn_iconst h 5 rfl rfl ?_
    first | refine zn_icmpge h rfl (by omega) (by omega) (fun hc => ?_) (fun hc => ?_) | refine zc_icmpge h rfl (fun hc => ?_) (fun hc => ?_)
    · obtain rfl : k = 5 := by omega
      have hlast : ¬ p_ft (f 62) n i < 5 := by omega
      have e86 : tw_up (tw_up f 85 c (nI 5)) 84 c (nI 0) 86 c = f 86 c := by rw [tw_off (by omega), off _ _ _ (by omega)]
      refine zi_aload_n h rfl rfl ?_
      refine zg_ref h rfl (by first | rfl | assumption) (by decide) rfl rfl ?_
      refine zi_iload_n h rfl rfl ?_
      refine zn_iconst h 0 rfl rfl ?_
      refine zs_z h rfl (by first | rfl | assumption) rfl (by omega) (by decide) (by first | exact Or.inl rfl | exact Or.inr rfl | exact tw_nz_01 _ | assumption) ?_
      refine zi_aload_n h rfl rfl ?_
      refine zg_ref h rfl (by first | rfl | assumption) (by decide) rfl rfl ?_
      refine zi_iload_n h rfl rfl ?_
      refine za_i h rfl (by first | rfl | assumption) rfl (by omega) (by decide) ?_
      rw [e86]
      refine zn_iconst h 4 rfl rfl ?_
      refine zc_icmpge h rfl (fun hc => ?_) (fun hc => ?_)
      · have h3 := h3 hlast hc
        have e96 : tw_up (tw_up (tw_up (tw_up f 85 c (nI 5)) 84 c 0) 69 (2 * c) 1) 69 (2 * c + 1) 1 96 c = nI g := by rw [tw_off (by omega), tw_off (by omega), tw_off (by omega), off _ _ _ (by omega)]; exact hg
        refine zi_aload_n h rfl rfl ?_
        refine zg_ref h rfl (by first | rfl | assumption) (by decide) rfl rfl ?_
        refine zn_iconst h 2 rfl rfl ?_
        refine zi_iload_n h rfl rfl ?_
        first | refine zn_imul h rfl ?_ | refine zi_imul h rfl ?_
        refine zn_iconst h 1 rfl rfl ?_
        refine zs_z h rfl (by first | rfl | assumption) rfl (by omega) (by decide) (by first | exact Or.inl rfl | exact Or.inr rfl | exact tw_nz_01 _ | assumption) ?_
        refine zi_aload_n h rfl rfl ?_
        refine zg_ref h rfl (by first | rfl | assumption) (by decide) rfl rfl ?_
        refine zn_iconst h 2 rfl rfl ?_
        show X 82 _ _ _ _
        refine zi_iload_n h rfl rfl ?_
        first | refine zn_imul h rfl ?_ | refine zi_imul h rfl ?_
        refine zn_iconst h 1 rfl rfl ?_
        first | refine zn_iadd h rfl ?_ | refine zi_iadd h rfl ?_
        refine zn_iconst h 1 rfl rfl ?_
        refine zs_z h rfl (by first | rfl | assumption) rfl (by omega) (by decide) (by first | exact Or.inl rfl | exact Or.inr rfl | exact tw_nz_01 _ | assumption) ?_
        refine zn_iconst h 0 rfl rfl ?_
        refine zi_istore_n h rfl (Nat.le_of_ble_eq_true rfl) ?_
        refine tw_mem (g := tw_up (tw_up (tw_up (tw_up f 85 c (nI 5)) 84 c 0) 69 (2 * c) 1) 69 (2 * c + 1) 1) (fun _ _ => rfl) ?_
        generalize tw_up (tw_up (tw_up (tw_up f 85 c (nI 5)) 84 c 0) 69 (2 * c) 1) 69 (2 * c + 1) 1 = w at e96 h3 ⊢
        have loop2 : ∀ n i : Nat, i + n = 8 → X 129 [some (tw_R 61), some (tw_I (nI c)), some (tw_I (nI i))] [] tx_L0 (k_rk (k_tk w c g 32) c i) := by
          generalize k_tk w c g 32 = z at h3
          intro n
          induction n with
          | zero =>
            intro i hi
            obtain rfl : i = 8 := by omega
            refine zi_iload_n h rfl rfl ?_
            refine zn_bipush h 8 rfl rfl ?_
            first | refine zn_icmpge h rfl (by omega) (by omega) (fun hc => ?_) (fun hc => ?_) | refine zc_icmpge h rfl (fun hc => ?_) (fun hc => ?_)
            · refine zi_vret h rfl ?_
              exact h3
            · omega
          | succ n ih =>
            intro i hi
            have ih := ih (i + 1) (by omega)
            have r78 : k_rk z c i 78 (8 * c + i) = z 78 (8 * c + i) := by
              unfold k_rk
              rw [if_neg (by omega), if_neg (by omega)]
            refine zi_iload_n h rfl rfl ?_
            refine zn_bipush h 8 rfl rfl ?_
            first | refine zn_icmpge h rfl (by omega) (by omega) (fun hc => ?_) (fun hc => ?_) | refine zc_icmpge h rfl (fun hc => ?_) (fun hc => ?_)
            · omega
            · refine zi_aload_n h rfl rfl ?_
              refine zg_ref h rfl (by first | rfl | assumption) (by decide) rfl rfl ?_
              refine zn_bipush h 8 rfl rfl ?_
              refine zi_iload_n h rfl rfl ?_
              first | refine zn_imul h rfl ?_ | refine zi_imul h rfl ?_
              refine zi_iload_n h rfl rfl ?_
              first | refine zn_iadd h rfl ?_ | refine zi_iadd h rfl ?_
              refine za_z h rfl (by first | rfl | assumption) rfl (by omega) (by decide) ?_
              rw [r78]
              refine zb_ifne h rfl (fun hc => ?_) (fun hc => ?_)
              · refine zi_aload_n h rfl rfl ?_
                refine zg_ref h rfl (by first | rfl | assumption) (by decide) rfl rfl ?_
                refine zn_bipush h 8 rfl rfl ?_
                refine zi_iload_n h rfl rfl ?_
                first | refine zn_imul h rfl ?_ | refine zi_imul h rfl ?_
                refine zi_iload_n h rfl rfl ?_
                first | refine zn_iadd h rfl ?_ | refine zi_iadd h rfl ?_
                refine zn_iconst h 1 rfl rfl ?_
                refine zs_z h rfl (by first | rfl | assumption) rfl (by omega) (by decide) (by first | exact Or.inl rfl | exact Or.inr rfl | exact tw_nz_01 _ | assumption) ?_
                refine zi_aload_n h rfl rfl ?_
                show X 152 _ _ _ _
                refine zg_ref h rfl (by first | rfl | assumption) (by decide) rfl rfl ?_
                refine zn_bipush h 8 rfl rfl ?_
                refine zi_iload_n h rfl rfl ?_
                first | refine zn_imul h rfl ?_ | refine zi_imul h rfl ?_
                refine zi_iload_n h rfl rfl ?_
                first | refine zn_iadd h rfl ?_ | refine zi_iadd h rfl ?_
                refine zn_iconst h 1 rfl rfl ?_
                refine zs_z h rfl (by first | rfl | assumption) rfl (by omega) (by decide) (by first | exact Or.inl rfl | exact Or.inr rfl | exact tw_nz_01 _ | assumption) ?_
                refine zi_aload_n h rfl rfl ?_
                refine zg_ref h rfl (by first | rfl | assumption) (by decide) rfl rfl ?_
                show X 162 _ _ _ _
                refine zn_bipush h 8 rfl rfl ?_
                refine zi_iload_n h rfl rfl ?_
                first | refine zn_imul h rfl ?_ | refine zi_imul h rfl ?_
                refine zi_iload_n h rfl rfl ?_
                first | refine zn_iadd h rfl ?_ | refine zi_iadd h rfl ?_
                refine zn_iconst h 0 rfl rfl ?_
                refine zs_z h rfl (by first | rfl | assumption) rfl (by omega) (by decide) (by first | exact Or.inl rfl | exact Or.inr rfl | exact tw_nz_01 _ | assumption) ?_
                first | refine zn_iinc h 1 rfl rfl rfl ?_ | refine zi_iinc h rfl rfl ?_
                refine zi_goto h rfl ?_
                refine tw_mem (fun q j => ?_) ih
                unfold k_rk tw_up
                by_cases hj : j = 8 * c + i
                · subst hj
                  by_cases k0 : q = 77 ∨ q = 78 ∨ q = 79
                  · rcases k0 with rfl | rfl | rfl <;> simp [hc, tw_n0, tw_n1]
                  · simp only [not_or] at k0
                    simp [k0]
                · have e1 : (j < 8 * c + (i + 1)) = (j < 8 * c + i) := by apply propext; omega
                  simp [e1, hj]
              · refine zi_goto h rfl ?_
                first | refine zn_iinc h 1 rfl rfl rfl ?_ | refine zi_iinc h rfl rfl ?_
                refine zi_goto h rfl ?_
                refine tw_mem (fun q j => ?_) ih
                unfold k_rk
                by_cases hj : j = 8 * c + i
                · subst hj
                  simp [hc]
                · have e1 : (j < 8 * c + (i + 1)) = (j < 8 * c + i) := by apply propext; omega
                  simp only [e1]
        have loop1 : ∀ n i : Nat, i + n = 32 → X 90 [some (tw_R 61), some (tw_I (nI c)), some (tw_I (nI i))] [] tx_L0 (k_tk w c g i) := by
          intro n
          induction n with
          | zero =>
            intro i hi
            obtain rfl : i = 32 := by omega
            refine zi_iload_n h rfl rfl ?_
            refine zn_bipush h 32 rfl rfl ?_
            first | refine zn_icmpge h rfl (by omega) (by omega) (fun hc => ?_) (fun hc => ?_) | refine zc_icmpge h rfl (fun hc => ?_) (fun hc => ?_)
            · refine zn_iconst h 0 rfl rfl ?_
              refine zi_istore_n h rfl (Nat.le_of_ble_eq_true rfl) ?_
              refine tw_mem (fun q j => ?_) (loop2 8 0 (by omega))
              generalize k_tk w c g 32 = z
              unfold k_rk
              rw [if_neg (by omega), if_neg (by omega)]
            · omega
          | succ n ih =>
            intro i hi
            have ih := ih (i + 1) (by omega)
            have r74 : k_tk w c g i 74 (32 * c + i) = w 74 (32 * c + i) := by
              unfold k_tk
              rw [if_neg (by omega), if_neg (by omega), if_neg (by omega), if_neg (by omega), if_neg (by omega)]
            have r75 : k_tk w c g i 75 (32 * c + i) = w 75 (32 * c + i) := by
              unfold k_tk
              rw [if_neg (by omega), if_neg (by omega), if_neg (by omega), if_neg (by omega), if_neg (by omega)]
            have r96 : k_tk w c g i 96 c = nI (g + p_cnt (fun j => w 74 (32 * c + j)) i) := if_pos ⟨rfl, rfl⟩
            refine zi_iload_n h rfl rfl ?_
            refine zn_bipush h 32 rfl rfl ?_
            first | refine zn_icmpge h rfl (by omega) (by omega) (fun hc => ?_) (fun hc => ?_) | refine zc_icmpge h rfl (fun hc => ?_) (fun hc => ?_)
            · omega
            · refine zi_aload_n h rfl rfl ?_
              refine zg_ref h rfl (by first | rfl | assumption) (by decide) rfl rfl ?_
              refine zn_bipush h 32 rfl rfl ?_
              refine zi_iload_n h rfl rfl ?_
              first | refine zn_imul h rfl ?_ | refine zi_imul h rfl ?_
              refine zi_iload_n h rfl rfl ?_
              first | refine zn_iadd h rfl ?_ | refine zi_iadd h rfl ?_
              refine za_z h rfl (by first | rfl | assumption) rfl (by omega) (by decide) ?_
              rw [r74]
              refine zb_ifne h rfl (fun hc => ?_) (fun hc => ?_)
              · have ec : p_cnt (fun j => w 74 (32 * c + j)) (i + 1) = p_cnt (fun j => w 74 (32 * c + j)) i + 1 := by simp [p_cnt, hc]
                refine zi_aload_n h rfl rfl ?_
                refine zi_iload_n h rfl rfl ?_
                refine zi_iload_n h rfl rfl ?_
                refine zi_aload_n h rfl rfl ?_
                refine zg_ref h rfl (by first | rfl | assumption) (by decide) rfl rfl ?_
                refine zn_bipush h 32 rfl rfl ?_
                refine zi_iload_n h rfl rfl ?_
                first | refine zn_imul h rfl ?_ | refine zi_imul h rfl ?_
                refine zi_iload_n h rfl rfl ?_
                first | refine zn_iadd h rfl ?_ | refine zi_iadd h rfl ?_
                show X 113 _ _ _ _
                refine za_i h rfl (by first | rfl | assumption) rfl (by omega) (by decide) ?_
                rw [r75]
                refine zn_iconst h 1 rfl rfl ?_
                refine zk_V h [_, _, _, _] rfl (by first | rfl | assumption) rfl rfl (Nat.le_of_ble_eq_true rfl) (s_k_keep1 hcc (by omega) ?_)
                refine zi_aload_n h rfl rfl ?_
                refine zg_ref h rfl (by first | rfl | assumption) (by decide) rfl rfl ?_
                refine zn_bipush h 32 rfl rfl ?_
                refine zi_iload_n h rfl rfl ?_
                first | refine zn_imul h rfl ?_ | refine zi_imul h rfl ?_
                refine zi_iload_n h rfl rfl ?_
                first | refine zn_iadd h rfl ?_ | refine zi_iadd h rfl ?_
                refine zn_iconst h 0 rfl rfl ?_
                refine zs_z h rfl (by first | rfl | assumption) rfl (by omega) (by decide) (by first | exact Or.inl rfl | exact Or.inr rfl | exact tw_nz_01 _ | assumption) ?_
                first | refine zn_iinc h 1 rfl rfl rfl ?_ | refine zi_iinc h rfl rfl ?_
                show X 126 _ _ _ _
                refine zi_goto h rfl ?_
                refine tw_mem (fun q j => ?_) ih
                have hv : k_tk w c g i 96 c + 1 = nI (g + p_cnt (fun j => w 74 (32 * c + j)) (i + 1)) := by
                  rw [r96, ec, nI_1]
                  rfl
                unfold k_keep1
                rw [hv]
                simp only [tw_up]
                by_cases hj : j = 32 * c + i
                · subst hj
                  have ex : 32 * c + i - 32 * c + 1 = i + 1 := by omega
                  by_cases k0 : q = 70 ∨ q = 71 ∨ q = 72 ∨ q = 73 ∨ q = 74 ∨ q = 96
                  · rcases k0 with rfl | rfl | rfl | rfl | rfl | rfl <;> simp [k_tk, hc, ex, tw_n0, tw_n1] <;> ((repeat' split) <;> first | rfl | omega)
                  · simp only [not_or] at k0
                    simp [k_tk, k0]
                · have e1 : (j < 32 * c + (i + 1)) = (j < 32 * c + i) := by apply propext; omega
                  by_cases k0 : q = 96 ∧ j = c
                  · obtain ⟨rfl, rfl⟩ := k0
                    simp [k_tk]
                  · simp [k_tk, e1, hj, k0]
              · have ec : p_cnt (fun j => w 74 (32 * c + j)) (i + 1) = p_cnt (fun j => w 74 (32 * c + j)) i := by simp [p_cnt, hc]
                refine zi_goto h rfl ?_
                first | refine zn_iinc h 1 rfl rfl rfl ?_ | refine zi_iinc h rfl rfl ?_
                refine zi_goto h rfl ?_
                refine tw_mem (fun q j => ?_) ih
                unfold k_tk
                rw [ec]
                by_cases hj : j = 32 * c + i
                · subst hj
                  simp [hc]
                · have e1 : (j < 32 * c + (i + 1)) = (j < 32 * c + i) := by apply propext; omega
                  simp only [e1]
        refine tw_mem (fun q j => ?_) (loop1 32 0 (by omega))
        unfold k_tk
        split
        · rename_i u
          rw [u.1, u.2, e96]
          rfl
        · rw [if_neg (by omega), if_neg (by omega), if_neg (by omega), if_neg (by omega)]
      · refine zi_aload_n h rfl rfl ?_
        refine zi_iload_n h rfl rfl ?_
        refine zk_V h [_] rfl (by first | rfl | assumption) rfl rfl (Nat.le_of_ble_eq_true rfl) (s_k_down hcc (by rw [tw_off (by omega), off _ _ _ (by omega)]; exact hl) hl2 (by rw [tw_off (by omega), off _ _ _ (by omega)]; exact ht) ht2 ?_)
        refine zi_vret h rfl ?_
        exact h2 hlast hc
    · have h1 := h1 (by omega)
      rw [← hk] at h1
      have e67 : tw_up f 85 c (nI k) 67 c = f 67 c := off _ _ _ (by omega)
      refine zi_aload_n h rfl rfl ?_
      refine zg_ref h rfl (by first | rfl | assumption) (by decide) rfl rfl ?_
      refine zi_aload_n h rfl rfl ?_
      refine zg_ref h rfl (by first | rfl | assumption) (by decide) rfl rfl ?_
      refine zi_iload_n h rfl rfl ?_
      refine za_n h k rfl (by first | rfl | assumption) rfl (by omega) (by decide) (by simp [tw_up]) ?_
      refine zi_aload_n h rfl rfl ?_
      refine zg_ref h rfl (by first | rfl | assumption) (by decide) rfl rfl ?_
      refine zi_iload_n h rfl rfl ?_
      refine za_i h rfl (by first | rfl | assumption) rfl (by omega) (by decide) ?_
      rw [e67]
      refine zs_i h rfl (by first | rfl | assumption) rfl (by omega) (by decide) ?_
      refine zi_aload_n h rfl rfl ?_
      refine zg_ref h rfl (by first | rfl | assumption) (by decide) rfl rfl ?_
      refine zi_iload_n h rfl rfl ?_
      refine zi_dup2 h rfl rfl rfl ?_
      refine za_n h k rfl (by first | rfl | assumption) rfl (by omega) (by decide) (by rw [tw_off (by omega)]; simp [tw_up]) ?_
      refine zn_iconst h 1 rfl rfl ?_
      first | refine zn_iadd h rfl ?_ | refine zi_iadd h rfl ?_
      refine zs_i h rfl (by first | rfl | assumption) rfl (by omega) (by decide) ?_
      refine zi_aload_n h rfl rfl ?_
      refine zg_ref h rfl (by first | rfl | assumption) (by decide) rfl rfl ?_
      refine zi_iload_n h rfl rfl ?_
      refine zi_dup2 h rfl rfl rfl ?_
      refine za_i h rfl (by first | rfl | assumption) rfl (by omega) (by decide) ?_
      have e86 : tw_up (tw_up (tw_up f 85 c (nI k)) 63 k (f 67 c)) 85 c (nI (k + 1)) 86 c = f 86 c := by rw [tw_off (by omega), tw_off (by omega), off _ _ _ (by omega)]
      rw [e86]
      refine zn_iconst h 1 rfl rfl ?_
      first | refine zn_iadd h rfl ?_ | refine zi_iadd h rfl ?_
      refine zs_i h rfl (by first | rfl | assumption) rfl (by omega) (by decide) ?_
      refine zi_vret h rfl ?_
      refine tw_memP (fun q j => ?_) h1
      unfold tw_up
      (repeat' split) <;> first | rfl | omega
  have loop : ∀ m k : Nat, k + m = 5 → p_ft (f 62) m k = p_ft (f 62) n i → X 0 [some (tw_R 61), some (tw_I (nI c)), none] [] tx_L0 (tw_up f 85 c (nI k)) := by
    intro m
    induction m with
    | zero =>
      intro k hk he
      obtain rfl : k = 5 := by omega
      have he : 5 = p_ft (f 62) n i := he
      refine zi_aload_n h rfl rfl ?_
      refine zg_ref h rfl (by first | rfl | assumption) (by decide) rfl rfl ?_
      refine zi_iload_n h rfl rfl ?_
      refine za_n h 5 rfl (by first | rfl | assumption) rfl (by omega) (by decide) (by simp [tw_up]) ?_
      refine zn_iconst h 5 rfl rfl ?_
      first | refine zn_icmpge h rfl (by omega) (by omega) (fun hc => ?_) (fun hc => ?_) | refine zc_icmpge h rfl (fun hc => ?_) (fun hc => ?_)
      · exact done 5 he (by omega)
      · omega
    | succ m ih =>
      intro k hk he
      have e62 : tw_up f 85 c (nI k) 62 k = f 62 k := off _ _ _ (by omega)
      refine zi_aload_n h rfl rfl ?_
      refine zg_ref h rfl (by first | rfl | assumption) (by decide) rfl rfl ?_
      refine zi_iload_n h rfl rfl ?_
      refine za_n h k rfl (by first | rfl | assumption) rfl (by omega) (by decide) (by simp [tw_up]) ?_
      refine zn_iconst h 5 rfl rfl ?_
      first | refine zn_icmpge h rfl (by omega) (by omega) (fun hc => ?_) (fun hc => ?_) | refine zc_icmpge h rfl (fun hc => ?_) (fun hc => ?_)
      · omega
      · refine zi_aload_n h rfl rfl ?_
        refine zg_ref h rfl (by first | rfl | assumption) (by decide) rfl rfl ?_
        refine zi_aload_n h rfl rfl ?_
        refine zg_ref h rfl (by first | rfl | assumption) (by decide) rfl rfl ?_
        refine zi_iload_n h rfl rfl ?_
        refine za_n h k rfl (by first | rfl | assumption) rfl (by omega) (by decide) (by simp [tw_up]) ?_
        refine za_z h rfl (by first | rfl | assumption) rfl (by omega) (by decide) ?_
        rw [e62]
        refine zb_ifne h rfl (fun hc => ?_) (fun hc => ?_)
        · have he : k = p_ft (f 62) n i := by rw [← he]; simp [p_ft, hc]
          exact done k he (by omega)
        · have ih := ih (k + 1) (by omega) (by rw [← he]; simp [p_ft, hc])
          refine zi_aload_n h rfl rfl ?_
          refine zg_ref h rfl (by first | rfl | assumption) (by decide) rfl rfl ?_
          refine zi_iload_n h rfl rfl ?_
          refine zi_dup2 h rfl rfl rfl ?_
          refine za_n h k rfl (by first | rfl | assumption) rfl (by omega) (by decide) (by simp [tw_up]) ?_
          refine zn_iconst h 1 rfl rfl ?_
          first | refine zn_iadd h rfl ?_ | refine zi_iadd h rfl ?_
          refine zs_i h rfl (by first | rfl | assumption) rfl (by omega) (by decide) ?_
          refine zi_goto h rfl ?_
          refine tw_mem (fun q j => ?_) ih
          unfold tw_up
          split <;> rfl
  refine tw_mem (fun q j => ?_) (loop n i hn rfl)
  unfold tw_up
  split
  · rename_i u
    rw [u.1, u.2, hi]
  · rfl
set_option maxRecDepth 20000 in
theorem s_k_repairs {fl : Bool} {d : Nat} {f : tw_S} {P : tw_S → Option tw_A → Prop} {c : Nat} (hc : c < 2) (hs : p_ft (fun s => f 79 (8 * c + s)) 8 0 < 8) (h1 : p_om (f 65) 5 (p_ft (fun s => f 79 (8 * c + s)) 8 0) 5 → P (tw_up f 79 (8 * c + p_ft (fun s => f 79 (8 * c + s)) 8 0) 0) none) (h2 : ¬ p_om (f 65) 5 (p_ft (fun s => f 79 (8 * c + s)) 8 0) 5 → P (k_begins (tw_up f 79 (8 * c + p_ft (fun s => f 79 (8 * c + s)) 8 0) 0) c (nI (p_pd (p_ft (fun s => f 79 (8 * c + s)) 8 0))) (nI (p_ft (fun s => f 79 (8 * c + s)) 8 0)) (p_xor (f 64) (p_pd (p_ft (fun s => f 79 (8 * c + s)) 8 0)) (p_ft (fun s => f 79 (8 * c + s)) 8 0) 5)) none) : tS fl (d + 3) 132 [tw_R 61, tw_I (nI c)] f P := by
  have hcc := hc
  refine tw_Sp_of rfl rfl (Nat.le_of_ble_eq_true rfl) (fun X h => ?_)
  refine zi_aload_n h rfl rfl ?_
  refine zi_aload_n h rfl rfl ?_
  refine zg_ref h rfl (by first | rfl | assumption) (by decide) rfl rfl ?_
  refine zi_iload_n h rfl rfl ?_
  refine zk_V h [_, _] rfl (by first | rfl | assumption) rfl rfl (Nat.le_of_ble_eq_true rfl) (s_k_lowest hcc (Or.inr (Or.inr rfl)) (fun g => ?_) (fun g => absurd hs g))
  show X 5 _ [tw_I (nI (p_ft (fun s => f 79 (8 * c + s)) 8 0))] _ _
  generalize p_ft (fun s => f 79 (8 * c + s)) 8 0 = s at hs h1 h2 ⊢
  have hp : p_pd s < 5 := by unfold p_pd; omega
  have e65 : tw_up f 79 (8 * c + s) (nI 0) 65 = f 65 := by funext j; exact tw_off (by omega)
  have e64 : tw_up f 79 (8 * c + s) (nI 0) 64 = f 64 := by funext j; exact tw_off (by omega)
  have ex : p_om (f 65) 5 s 5 ↔ (¬ f 65 (p_pd s * 8 + s) = 0 ∨ p_om (f 65) (p_pd s) s 5) := by
    constructor
    · rintro ⟨o, g1, g2, g3⟩
      by_cases ho : o = p_pd s
      · rw [← ho]; exact Or.inl g3
      · exact Or.inr ⟨o, g1, ho, g3⟩
    · rintro (g | ⟨o, g1, g2, g3⟩)
      · exact ⟨p_pd s, hp, by omega, g⟩
      · exact ⟨o, g1, by omega, g3⟩
  refine zi_istore_n h rfl (Nat.le_of_ble_eq_true rfl) ?_
  refine zi_aload_n h rfl rfl ?_
  refine zg_ref h rfl (by first | rfl | assumption) (by decide) rfl rfl ?_
  refine zn_bipush h 8 rfl rfl ?_
  refine zi_iload_n h rfl rfl ?_
  first | refine zn_imul h rfl ?_ | refine zi_imul h rfl ?_
  refine zi_iload_n h rfl rfl ?_
  first | refine zn_iadd h rfl ?_ | refine zi_iadd h rfl ?_
  refine zn_iconst h 0 rfl rfl ?_
  refine zs_z h rfl (by first | rfl | assumption) rfl (by omega) (by decide) (by first | exact Or.inl rfl | exact Or.inr rfl | exact tw_nz_01 _ | assumption) ?_
  show X 15 _ _ _ _
  refine zi_iload_n h rfl rfl ?_
  refine zk_S h [_] rfl rfl rfl (Nat.le_of_ble_eq_true rfl) (s_k_parityDisk hs ?_)
  refine zi_istore_n h rfl (Nat.le_of_ble_eq_true rfl) ?_
  refine zi_aload_n h rfl rfl ?_
  refine zi_iload_n h rfl rfl ?_
  refine zi_iload_n h rfl rfl ?_
  refine zk_V h [_, _] rfl (by first | rfl | assumption) rfl rfl (Nat.le_of_ble_eq_true rfl) (s_k_isMissing hp hs ?_)
  rw [e65]
  first | refine zb_ifne h rfl (fun hc => ?_) (fun hc => ?_) | refine zc_ifne h rfl (fun hc => ?_) (fun hc => ?_)
  · refine zi_vret h rfl ?_
    exact h1 (ex.mpr (Or.inl hc))
  · have c1 := hc
    refine zi_aload_n h rfl rfl ?_
    refine zi_iload_n h rfl rfl ?_
    refine zi_iload_n h rfl rfl ?_
    refine zk_V h [_, _] rfl (by first | rfl | assumption) rfl rfl (Nat.le_of_ble_eq_true rfl) (s_k_othersThere hs (by omega) (fun u => ?_) (fun u => ?_))
    · rw [e65] at u
      first | refine zb_ifeq h rfl (fun hc => ?_) (fun hc => ?_) | refine zc_ifeq h rfl (fun hc => ?_) (fun hc => ?_)
      · exact absurd hc (by decide)
      · refine zi_aload_n h rfl rfl ?_
        refine zi_iload_n h rfl rfl ?_
        refine zi_iload_n h rfl rfl ?_
        refine zi_iload_n h rfl rfl ?_
        refine zi_aload_n h rfl rfl ?_
        refine zi_iload_n h rfl rfl ?_
        refine zi_iload_n h rfl rfl ?_
        refine zk_V h [_, _] rfl (by first | rfl | assumption) rfl rfl (Nat.le_of_ble_eq_true rfl) (s_k_others (by omega) hs ?_)
        rw [e64]
        refine zk_V h [_, _, _, _] rfl (by first | rfl | assumption) rfl rfl (Nat.le_of_ble_eq_true rfl) (s_k_begins hcc ?_)
        refine zi_vret h rfl ?_
        exact h2 (fun v => (ex.mp v).elim (fun z => z c1) u)
    · rw [e65] at u
      first | refine zb_ifeq h rfl (fun hc => ?_) (fun hc => ?_) | refine zc_ifeq h rfl (fun hc => ?_) (fun hc => ?_)
      · refine zi_vret h rfl ?_
        exact h1 (ex.mpr (Or.inr u))
      · exact absurd rfl hc
