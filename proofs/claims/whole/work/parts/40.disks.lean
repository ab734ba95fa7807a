/-! The disks: cell 1; there 2, keys 3, blocks 4, missing 5. -/
set_option maxRecDepth 4000 in
theorem s_isController {fl : Bool} {d : Nat} {f : tw_S} {P : tw_S → Option tw_A → Prop} {x : Int32} (h1 : x = 0 ∨ x = 1 → P f (some (tw_I 1))) (h2 : ¬ (x = 0 ∨ x = 1) → P f (some (tw_I 0))) : tS fl (d + 1) 62 [tw_I x] f P := by
  refine tw_Sp_of rfl rfl (Nat.le_of_ble_eq_true rfl) (fun X h => ?_)
  refine zi_iload_n h rfl rfl ?_
  first | refine zb_ifeq h rfl (fun hc => ?_) (fun hc => ?_) | refine zc_ifeq h rfl (fun hc => ?_) (fun hc => ?_)
  · refine zn_iconst h 1 rfl rfl ?_
    refine zi_goto h rfl ?_
    refine zi_zret h rfl (by first | exact Or.inl rfl | exact Or.inr rfl | exact tw_nz_01 _ | assumption) ?_
    exact h1 (Or.inl hc)
  · have hc0 := hc
    refine zi_iload_n h rfl rfl ?_
    refine zn_iconst h 1 rfl rfl ?_
    first | refine zn_icmpne h rfl (by omega) (by omega) (fun hc => ?_) (fun hc => ?_) | refine zc_icmpne h rfl (fun hc => ?_) (fun hc => ?_)
    · refine zn_iconst h 0 rfl rfl ?_
      refine zi_zret h rfl (by first | exact Or.inl rfl | exact Or.inr rfl | exact tw_nz_01 _ | assumption) ?_
      exact h2 (fun g => g.elim hc0 hc)
    · refine zn_iconst h 1 rfl rfl ?_
      refine zi_goto h rfl ?_
      refine zi_zret h rfl (by first | exact Or.inl rfl | exact Or.inr rfl | exact tw_nz_01 _ | assumption) ?_
      exact h1 (Or.inr hc)
theorem s_put {fl : Bool} {d : Nat} {f : tw_S} {P : tw_S → Option tw_A → Prop} {i s : Nat} {v : Int32} (hi : i < 5) (hs : s < 8) (hP : P (tw_up (tw_up f 4 (i * 8 + s) v) 5 (i * 8 + s) 0) none) : tS fl (d + 1) 34 [tw_R 1, tw_I (nI i), tw_I (nI s), tw_I v] f P := by
  refine tw_Sp_of rfl rfl (Nat.le_of_ble_eq_true rfl) (fun X h => ?_)
  refine zi_aload_n h rfl rfl ?_
  refine zg_ref h rfl (by first | rfl | assumption) (by decide) rfl rfl ?_
  refine zi_iload_n h rfl rfl ?_
  refine zn_bipush h 8 rfl rfl ?_
  first | refine zn_imul h rfl ?_ | refine zi_imul h rfl ?_
  refine zi_iload_n h rfl rfl ?_
  first | refine zn_iadd h rfl ?_ | refine zi_iadd h rfl ?_
  refine zi_iload_n h rfl rfl ?_
  refine zs_i h rfl (by first | rfl | assumption) rfl (by omega) (by decide) ?_
  refine zi_aload_n h rfl rfl ?_
  show X 10 _ _ _ _
  refine zg_ref h rfl (by first | rfl | assumption) (by decide) rfl rfl ?_
  refine zi_iload_n h rfl rfl ?_
  refine zn_bipush h 8 rfl rfl ?_
  first | refine zn_imul h rfl ?_ | refine zi_imul h rfl ?_
  refine zi_iload_n h rfl rfl ?_
  first | refine zn_iadd h rfl ?_ | refine zi_iadd h rfl ?_
  refine zn_iconst h 0 rfl rfl ?_
  refine zs_z h rfl (by first | rfl | assumption) rfl (by omega) (by decide) (by first | exact Or.inl rfl | exact Or.inr rfl | assumption) ?_
  refine zi_vret h rfl ?_
  exact hP
theorem s_isMissing {fl : Bool} {d : Nat} {f : tw_S} {P : tw_S → Option tw_A → Prop} {i s : Nat} (hi : i < 5) (hs : s < 8) (hP : P f (some (tw_I (tw_nz (f 5 (i * 8 + s)))))) : tS fl (d + 1) 28 [tw_R 1, tw_I (nI i), tw_I (nI s)] f P := by
  refine tw_Sp_of rfl rfl (Nat.le_of_ble_eq_true rfl) (fun X h => ?_)
  refine zi_aload_n h rfl rfl ?_
  refine zg_ref h rfl (by first | rfl | assumption) (by decide) rfl rfl ?_
  refine zi_iload_n h rfl rfl ?_
  refine zn_bipush h 8 rfl rfl ?_
  first | refine zn_imul h rfl ?_ | refine zi_imul h rfl ?_
  refine zi_iload_n h rfl rfl ?_
  first | refine zn_iadd h rfl ?_ | refine zi_iadd h rfl ?_
  refine za_z h rfl (by first | rfl | assumption) rfl (by omega) (by decide) ?_
  refine zi_zret h rfl (by first | exact Or.inl rfl | exact Or.inr rfl | exact tw_nz_01 _ | assumption) ?_
  exact hP
theorem s_blockOn {fl : Bool} {d : Nat} {f : tw_S} {P : tw_S → Option tw_A → Prop} {i s : Nat} (hi : i < 5) (hs : s < 8) (hP : P f (some (tw_I (f 4 (i * 8 + s))))) : tS fl (d + 1) 31 [tw_R 1, tw_I (nI i), tw_I (nI s)] f P := by
  refine tw_Sp_of rfl rfl (Nat.le_of_ble_eq_true rfl) (fun X h => ?_)
  refine zi_aload_n h rfl rfl ?_
  refine zg_ref h rfl (by first | rfl | assumption) (by decide) rfl rfl ?_
  refine zi_iload_n h rfl rfl ?_
  refine zn_bipush h 8 rfl rfl ?_
  first | refine zn_imul h rfl ?_ | refine zi_imul h rfl ?_
  refine zi_iload_n h rfl rfl ?_
  first | refine zn_iadd h rfl ?_ | refine zi_iadd h rfl ?_
  refine za_i h rfl (by first | rfl | assumption) rfl (by omega) (by decide) ?_
  refine zi_iret h rfl ?_
  exact hP
theorem s_remove {fl : Bool} {d : Nat} {f : tw_S} {P : tw_S → Option tw_A → Prop} {i : Nat} (hi : i < 5) (hP : P (fun q j => if q = 2 ∧ j = i then 0 else if q = 5 ∧ i * 8 ≤ j ∧ j < i * 8 + 8 then 1 else f q j) none) : tS fl (d + 1) 38 [tw_R 1, tw_I (nI i)] f P := by
  refine tw_Sp_of rfl rfl (Nat.le_of_ble_eq_true rfl) (fun X h => ?_)
  have loop : ∀ n s : Nat, s + n = 8 → X 7 [some (tw_R 1), some (tw_I (nI i)), some (tw_I (nI s))] [] tx_L0 (fun q j => if q = 2 ∧ j = i then 0 else if q = 5 ∧ i * 8 ≤ j ∧ j < i * 8 + s then 1 else f q j) := by
    intro n
    induction n with
    | zero =>
      intro s hs
      obtain rfl : s = 8 := by omega
      refine zi_iload_n h rfl rfl ?_
      refine zn_bipush h 8 rfl rfl ?_
      first | refine zn_icmpge h rfl (by omega) (by omega) (fun hc => ?_) (fun hc => ?_) | refine zc_icmpge h rfl (fun hc => ?_) (fun hc => ?_)
      · refine zi_vret h rfl ?_
        exact hP
      · omega
    | succ n ih =>
      intro s hs
      have ih := ih (s + 1) (by omega)
      refine zi_iload_n h rfl rfl ?_
      refine zn_bipush h 8 rfl rfl ?_
      first | refine zn_icmpge h rfl (by omega) (by omega) (fun hc => ?_) (fun hc => ?_) | refine zc_icmpge h rfl (fun hc => ?_) (fun hc => ?_)
      · omega
      · refine zi_aload_n h rfl rfl ?_
        refine zg_ref h rfl (by first | rfl | assumption) (by decide) rfl rfl ?_
        refine zi_iload_n h rfl rfl ?_
        refine zn_bipush h 8 rfl rfl ?_
        first | refine zn_imul h rfl ?_ | refine zi_imul h rfl ?_
        refine zi_iload_n h rfl rfl ?_
        first | refine zn_iadd h rfl ?_ | refine zi_iadd h rfl ?_
        refine zn_iconst h 1 rfl rfl ?_
        refine zs_z h rfl (by first | rfl | assumption) rfl (by omega) (by decide) (by first | exact Or.inl rfl | exact Or.inr rfl | assumption) ?_
        first | refine zn_iinc h 1 rfl rfl rfl ?_ | refine zi_iinc h rfl rfl ?_
        show X 20 _ _ _ _
        refine zi_goto h rfl ?_
        refine tw_mem (fun q j => ?_) (ih)
        try simp only [tw_up, tw_n0, tw_n1, tw_n2, false_and, and_false, true_and, and_true, false_or, or_false, if_true, if_false]
        (repeat' split) <;> first | rfl | omega | exact tw_cgf (by omega) (by omega)
  refine zi_aload_n h rfl rfl ?_
  refine zg_ref h rfl (by first | rfl | assumption) (by decide) rfl rfl ?_
  refine zi_iload_n h rfl rfl ?_
  refine zn_iconst h 0 rfl rfl ?_
  refine zs_z h rfl (by first | rfl | assumption) rfl (by omega) (by decide) (by first | exact Or.inl rfl | exact Or.inr rfl | assumption) ?_
  refine zn_iconst h 0 rfl rfl ?_
  refine zi_istore_n h rfl (Nat.le_of_ble_eq_true rfl) ?_
  refine tw_mem (fun q j => ?_) (loop 8 0 (by omega))
  try simp only [tw_up, tw_n0, tw_n1, tw_n2, false_and, and_false, true_and, and_true, false_or, or_false, if_true, if_false]
  (repeat' split) <;> first | rfl | omega | exact tw_cgf (by omega) (by omega)
