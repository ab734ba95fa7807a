/-! Entries (a cache, a mirror), an inbox, a destage, a disk write. -/
set_option maxRecDepth 20000 in
theorem s_drop {fl : Bool} {d : Nat} {f : tw_S} {P : tw_S → Option tw_A → Prop} {q i : Nat} (he : tx_isE q) (hi : i < 32) (hP : P (tw_up (tw_up f (q + 1) i 0) (q + 2) i 0) none) : tS fl (d + 1) 9 [tw_R q, tw_I (nI i)] f P := by
  obtain ⟨l0, l1, l2, l3, l4⟩ := tx_ent he
  refine tw_Sp_of rfl rfl (Nat.le_of_ble_eq_true rfl) (fun X h => ?_)
  refine zi_aload_n h rfl rfl ?_
  refine zg_ref h rfl (by first | rfl | assumption) (by decide) rfl rfl ?_
  refine zi_iload_n h rfl rfl ?_
  refine zn_iconst h 0 rfl rfl ?_
  refine zs_z h rfl (by first | rfl | assumption) rfl (by omega) (by decide) (by first | exact Or.inl rfl | exact Or.inr rfl | assumption) ?_
  refine zi_aload_n h rfl rfl ?_
  refine zg_ref h rfl (by first | rfl | assumption) (by decide) rfl rfl ?_
  refine zi_iload_n h rfl rfl ?_
  refine zn_iconst h 0 rfl rfl ?_
  refine zs_z h rfl (by first | rfl | assumption) rfl (by omega) (by decide) (by first | exact Or.inl rfl | exact Or.inr rfl | assumption) ?_
  show X 10 _ _ _ _
  refine zi_vret h rfl ?_
  exact hP
set_option maxRecDepth 20000 in
theorem s_dropAll {fl : Bool} {d : Nat} {f : tw_S} {P : tw_S → Option tw_A → Prop} {q : Nat} (he : tx_isE q) (hP : P (p_drop f q) none) : tS fl (d + 2) 10 [tw_R q] f P := by
  obtain ⟨l0, l1, l2, l3, l4⟩ := tx_ent he
  refine tw_Sp_of rfl rfl (Nat.le_of_ble_eq_true rfl) (fun X h => ?_)
  have loop : ∀ n i : Nat, i + n = 32 → X 2 [some (tw_R q), some (tw_I (nI i))] [] tx_L0 (fun c j => if (c = q + 1 ∨ c = q + 2) ∧ j < i then 0 else f c j) := by
    intro n
    induction n with
    | zero =>
      intro i hi
      obtain rfl : i = 32 := by omega
      refine zi_iload_n h rfl rfl ?_
      refine zn_bipush h 32 rfl rfl ?_
      first | refine zn_icmpge h rfl (by omega) (by omega) (fun hc => ?_) (fun hc => ?_) | refine zc_icmpge h rfl (fun hc => ?_) (fun hc => ?_)
      · refine zi_vret h rfl ?_
        exact hP
      · omega
    | succ n ih =>
      intro i hi
      have ih := ih (i + 1) (by omega)
      refine zi_iload_n h rfl rfl ?_
      refine zn_bipush h 32 rfl rfl ?_
      first | refine zn_icmpge h rfl (by omega) (by omega) (fun hc => ?_) (fun hc => ?_) | refine zc_icmpge h rfl (fun hc => ?_) (fun hc => ?_)
      · omega
      · refine zi_aload_n h rfl rfl ?_
        refine zi_iload_n h rfl rfl ?_
        refine zk_V h [_] rfl (by first | rfl | assumption) rfl rfl (Nat.le_of_ble_eq_true rfl) (s_drop he (by omega) ?_)
        first | refine zn_iinc h 1 rfl rfl rfl ?_ | refine zi_iinc h rfl rfl ?_
        refine zi_goto h rfl ?_
        refine tw_mem (fun q j => ?_) (ih)
        try simp only [tw_up, tw_n0, tw_n1, tw_n2, false_and, and_false, true_and, and_true, false_or, or_false, if_true, if_false]
        (repeat' split) <;> first | rfl | omega | exact tw_cgf (by omega) (by omega)
  refine zn_iconst h 0 rfl rfl ?_
  refine zi_istore_n h rfl (Nat.le_of_ble_eq_true rfl) ?_
  refine tw_mem (fun q j => ?_) (loop 32 0 (by omega))
  try simp only [tw_up, tw_n0, tw_n1, tw_n2, false_and, and_false, true_and, and_true, false_or, or_false, if_true, if_false]
  (repeat' split) <;> first | rfl | omega | exact tw_cgf (by omega) (by omega)
set_option maxRecDepth 20000 in
theorem s_eput {fl : Bool} {d : Nat} {f : tw_S} {P : tw_S → Option tw_A → Prop} {q i : Nat} {v w x : Int32} (he : tx_isE q) (hi : i < 32) (hx : x = 0 ∨ x = 1) (hP : P (tw_up (tw_up (tw_up (tw_up f (q + 1) i 1) (q + 2) i x) (q + 3) i v) (q + 4) i w) none) : tS fl (d + 1) 12 [tw_R q, tw_I (nI i), tw_I v, tw_I w, tw_I x] f P := by
  obtain ⟨l0, l1, l2, l3, l4⟩ := tx_ent he
  refine tw_Sp_of rfl rfl (Nat.le_of_ble_eq_true rfl) (fun X h => ?_)
  refine zi_aload_n h rfl rfl ?_
  refine zg_ref h rfl (by first | rfl | assumption) (by decide) rfl rfl ?_
  refine zi_iload_n h rfl rfl ?_
  refine zn_iconst h 1 rfl rfl ?_
  refine zs_z h rfl (by first | rfl | assumption) rfl (by omega) (by decide) (by first | exact Or.inl rfl | exact Or.inr rfl | assumption) ?_
  refine zi_aload_n h rfl rfl ?_
  refine zg_ref h rfl (by first | rfl | assumption) (by decide) rfl rfl ?_
  refine zi_iload_n h rfl rfl ?_
  refine zi_iload h rfl rfl ?_
  refine zs_z h rfl (by first | rfl | assumption) rfl (by omega) (by decide) (by first | exact Or.inl rfl | exact Or.inr rfl | assumption) ?_
  show X 10 _ _ _ _
  refine zi_aload_n h rfl rfl ?_
  refine zg_ref h rfl (by first | rfl | assumption) (by decide) rfl rfl ?_
  refine zi_iload_n h rfl rfl ?_
  refine zi_iload_n h rfl rfl ?_
  refine zs_i h rfl (by first | rfl | assumption) rfl (by omega) (by decide) ?_
  refine zi_aload_n h rfl rfl ?_
  refine zg_ref h rfl (by first | rfl | assumption) (by decide) rfl rfl ?_
  refine zi_iload_n h rfl rfl ?_
  refine zi_iload_n h rfl rfl ?_
  refine zs_i h rfl (by first | rfl | assumption) rfl (by omega) (by decide) ?_
  show X 20 _ _ _ _
  refine zi_vret h rfl ?_
  exact hP
set_option maxRecDepth 20000 in
theorem s_putIfNewer {fl : Bool} {d : Nat} {f : tw_S} {P : tw_S → Option tw_A → Prop} {q i : Nat} {v w : Int32} (he : tx_isE q) (hi : i < 32) (h1 : (f (q + 1) i = 0 ∨ ¬ w ≤ f (q + 4) i) → P (tw_up (tw_up (tw_up (tw_up f (q + 1) i 1) (q + 2) i 0) (q + 3) i v) (q + 4) i w) none) (h2 : ¬ (f (q + 1) i = 0 ∨ ¬ w ≤ f (q + 4) i) → P f none) : tS fl (d + 2) 42 [tw_R q, tw_I (nI i), tw_I v, tw_I w] f P := by
  obtain ⟨l0, l1, l2, l3, l4⟩ := tx_ent he
  refine tw_Sp_of rfl rfl (Nat.le_of_ble_eq_true rfl) (fun X h => ?_)
  refine zi_aload_n h rfl rfl ?_
  refine zg_ref h rfl (by first | rfl | assumption) (by decide) rfl rfl ?_
  refine zi_iload_n h rfl rfl ?_
  refine za_z h rfl (by first | rfl | assumption) rfl (by omega) (by decide) ?_
  first | refine zb_ifeq h rfl (fun hc => ?_) (fun hc => ?_) | refine zc_ifeq h rfl (fun hc => ?_) (fun hc => ?_)
  · refine zi_aload_n h rfl rfl ?_
    refine zi_iload_n h rfl rfl ?_
    refine zi_iload_n h rfl rfl ?_
    refine zi_iload_n h rfl rfl ?_
    refine zn_iconst h 0 rfl rfl ?_
    refine zk_V h [_, _, _, _] rfl (by first | rfl | assumption) rfl rfl (Nat.le_of_ble_eq_true rfl) (s_eput he hi (Or.inl rfl) ?_)
    refine zi_vret h rfl ?_
    exact h1 (Or.inl hc)
  · have hc0 := hc
    refine zi_aload_n h rfl rfl ?_
    refine zg_ref h rfl (by first | rfl | assumption) (by decide) rfl rfl ?_
    refine zi_iload_n h rfl rfl ?_
    refine za_i h rfl (by first | rfl | assumption) rfl (by omega) (by decide) ?_
    refine zi_iload_n h rfl rfl ?_
    first | refine zn_icmpge h rfl (by omega) (by omega) (fun hc => ?_) (fun hc => ?_) | refine zc_icmpge h rfl (fun hc => ?_) (fun hc => ?_)
    · refine zi_vret h rfl ?_
      exact h2 (fun g => g.elim hc0 (fun u => u hc))
    · refine zi_aload_n h rfl rfl ?_
      refine zi_iload_n h rfl rfl ?_
      refine zi_iload_n h rfl rfl ?_
      refine zi_iload_n h rfl rfl ?_
      refine zn_iconst h 0 rfl rfl ?_
      refine zk_V h [_, _, _, _] rfl (by first | rfl | assumption) rfl rfl (Nat.le_of_ble_eq_true rfl) (s_eput he hi (Or.inl rfl) ?_)
      refine zi_vret h rfl ?_
      exact h1 (Or.inr hc)
set_option maxRecDepth 20000 in
theorem s_dropVersion {fl : Bool} {d : Nat} {f : tw_S} {P : tw_S → Option tw_A → Prop} {q i : Nat} {w : Int32} (he : tx_isE q) (hi : i < 32) (h1 : (¬ f (q + 1) i = 0 ∧ f (q + 4) i = w) → P (tw_up (tw_up f (q + 1) i 0) (q + 2) i 0) none) (h2 : ¬ (¬ f (q + 1) i = 0 ∧ f (q + 4) i = w) → P f none) : tS fl (d + 2) 43 [tw_R q, tw_I (nI i), tw_I w] f P := by
  obtain ⟨l0, l1, l2, l3, l4⟩ := tx_ent he
  refine tw_Sp_of rfl rfl (Nat.le_of_ble_eq_true rfl) (fun X h => ?_)
  refine zi_aload_n h rfl rfl ?_
  refine zg_ref h rfl (by first | rfl | assumption) (by decide) rfl rfl ?_
  refine zi_iload_n h rfl rfl ?_
  refine za_z h rfl (by first | rfl | assumption) rfl (by omega) (by decide) ?_
  first | refine zb_ifeq h rfl (fun hc => ?_) (fun hc => ?_) | refine zc_ifeq h rfl (fun hc => ?_) (fun hc => ?_)
  · refine zi_vret h rfl ?_
    exact h2 (fun g => g.1 hc)
  · have hc0 := hc
    refine zi_aload_n h rfl rfl ?_
    refine zg_ref h rfl (by first | rfl | assumption) (by decide) rfl rfl ?_
    refine zi_iload_n h rfl rfl ?_
    refine za_i h rfl (by first | rfl | assumption) rfl (by omega) (by decide) ?_
    refine zi_iload_n h rfl rfl ?_
    first | refine zn_icmpne h rfl (by omega) (by omega) (fun hc => ?_) (fun hc => ?_) | refine zc_icmpne h rfl (fun hc => ?_) (fun hc => ?_)
    · refine zi_vret h rfl ?_
      exact h2 (fun g => hc g.2)
    · refine zi_aload_n h rfl rfl ?_
      refine zi_iload_n h rfl rfl ?_
      refine zk_V h [_] rfl (by first | rfl | assumption) rfl rfl (Nat.le_of_ble_eq_true rfl) (s_drop he hi ?_)
      refine zi_vret h rfl ?_
      exact h1 ⟨hc0, hc⟩
set_option maxRecDepth 20000 in
theorem s_holdsOfVolume {fl : Bool} {d : Nat} {f : tw_S} {P : tw_S → Option tw_A → Prop} {q u : Nat} (he : tx_isE q) (hu : u < 2) (h1 : (∃ j, j < 16 ∧ ¬ f (q + 1) (u * 16 + j) = 0) → P f (some (tw_I 1))) (h2 : ¬ (∃ j, j < 16 ∧ ¬ f (q + 1) (u * 16 + j) = 0) → P f (some (tw_I 0))) : tS fl (d + 1) 44 [tw_R q, tw_I (nI u)] f P := by
  obtain ⟨l0, l1, l2, l3, l4⟩ := tx_ent he
  refine tw_Sp_of rfl rfl (Nat.le_of_ble_eq_true rfl) (fun X h => ?_)
  have loop : ∀ n i : Nat, i + n = 16 → (∀ j, j < i → f (q + 1) (u * 16 + j) = 0) → X 2 [some (tw_R q), some (tw_I (nI u)), some (tw_I (nI i))] [] tx_L0 f := by
    intro n
    induction n with
    | zero =>
      intro i hi hz
      obtain rfl : i = 16 := by omega
      refine zi_iload_n h rfl rfl ?_
      refine zn_bipush h 16 rfl rfl ?_
      first | refine zn_icmpge h rfl (by omega) (by omega) (fun hc => ?_) (fun hc => ?_) | refine zc_icmpge h rfl (fun hc => ?_) (fun hc => ?_)
      · refine zn_iconst h 0 rfl rfl ?_
        refine zi_zret h rfl (by first | exact Or.inl rfl | exact Or.inr rfl | exact tw_nz_01 _ | assumption) ?_
        exact h2 (fun ⟨j, g1, g2⟩ => g2 (hz j g1))
      · omega
    | succ n ih =>
      intro i hi hz
      refine zi_iload_n h rfl rfl ?_
      refine zn_bipush h 16 rfl rfl ?_
      first | refine zn_icmpge h rfl (by omega) (by omega) (fun hc => ?_) (fun hc => ?_) | refine zc_icmpge h rfl (fun hc => ?_) (fun hc => ?_)
      · omega
      · refine zi_aload_n h rfl rfl ?_
        refine zg_ref h rfl (by first | rfl | assumption) (by decide) rfl rfl ?_
        refine zi_iload_n h rfl rfl ?_
        refine zn_bipush h 16 rfl rfl ?_
        first | refine zn_imul h rfl ?_ | refine zi_imul h rfl ?_
        refine zi_iload_n h rfl rfl ?_
        first | refine zn_iadd h rfl ?_ | refine zi_iadd h rfl ?_
        refine za_z h rfl (by first | rfl | assumption) rfl (by omega) (by decide) ?_
        first | refine zb_ifeq h rfl (fun hc => ?_) (fun hc => ?_) | refine zc_ifeq h rfl (fun hc => ?_) (fun hc => ?_)
        · have ih := ih (i + 1) (by omega) (fun j hj => by
            by_cases hji : j = i
            · rw [hji]; exact hc
            · exact hz j (by omega))
          first | refine zn_iinc h 1 rfl rfl rfl ?_ | refine zi_iinc h rfl rfl ?_
          refine zi_goto h rfl ?_
          exact ih
        · refine zn_iconst h 1 rfl rfl ?_
          refine zi_zret h rfl (by first | exact Or.inl rfl | exact Or.inr rfl | exact tw_nz_01 _ | assumption) ?_
          exact h1 ⟨i, by omega, hc⟩
  refine zn_iconst h 0 rfl rfl ?_
  refine zi_istore_n h rfl (Nat.le_of_ble_eq_true rfl) ?_
  exact loop 16 0 (by omega) (fun j hj => by omega)
set_option maxRecDepth 20000 in
theorem s_dropVolume {fl : Bool} {d : Nat} {f : tw_S} {P : tw_S → Option tw_A → Prop} {q u : Nat} (he : tx_isE q) (hu : u < 2) (hP : P (fun c j => if (c = q + 1 ∨ c = q + 2) ∧ u * 16 ≤ j ∧ j < u * 16 + 16 then 0 else f c j) none) : tS fl (d + 2) 45 [tw_R q, tw_I (nI u)] f P := by
  obtain ⟨l0, l1, l2, l3, l4⟩ := tx_ent he
  refine tw_Sp_of rfl rfl (Nat.le_of_ble_eq_true rfl) (fun X h => ?_)
  have loop : ∀ n i : Nat, i + n = 16 → X 2 [some (tw_R q), some (tw_I (nI u)), some (tw_I (nI i))] [] tx_L0 (fun c j => if (c = q + 1 ∨ c = q + 2) ∧ u * 16 ≤ j ∧ j < u * 16 + i then 0 else f c j) := by
    intro n
    induction n with
    | zero =>
      intro i hi
      obtain rfl : i = 16 := by omega
      refine zi_iload_n h rfl rfl ?_
      refine zn_bipush h 16 rfl rfl ?_
      first | refine zn_icmpge h rfl (by omega) (by omega) (fun hc => ?_) (fun hc => ?_) | refine zc_icmpge h rfl (fun hc => ?_) (fun hc => ?_)
      · refine zi_vret h rfl ?_
        exact hP
      · omega
    | succ n ih =>
      intro i hi
      have ih := ih (i + 1) (by omega)
      refine zi_iload_n h rfl rfl ?_
      refine zn_bipush h 16 rfl rfl ?_
      first | refine zn_icmpge h rfl (by omega) (by omega) (fun hc => ?_) (fun hc => ?_) | refine zc_icmpge h rfl (fun hc => ?_) (fun hc => ?_)
      · omega
      · refine zi_aload_n h rfl rfl ?_
        refine zi_iload_n h rfl rfl ?_
        refine zn_bipush h 16 rfl rfl ?_
        first | refine zn_imul h rfl ?_ | refine zi_imul h rfl ?_
        refine zi_iload_n h rfl rfl ?_
        first | refine zn_iadd h rfl ?_ | refine zi_iadd h rfl ?_
        refine zk_V h [_] rfl (by first | rfl | assumption) rfl rfl (Nat.le_of_ble_eq_true rfl) (s_drop he (by omega) ?_)
        first | refine zn_iinc h 1 rfl rfl rfl ?_ | refine zi_iinc h rfl rfl ?_
        refine zi_goto h rfl ?_
        refine tw_mem (fun q j => ?_) (ih)
        try simp only [tw_up, tw_n0, tw_n1, tw_n2, false_and, and_false, true_and, and_true, false_or, or_false, if_true, if_false]
        (repeat' split) <;> first | rfl | omega | exact tw_cgf (by omega) (by omega)
  refine zn_iconst h 0 rfl rfl ?_
  refine zi_istore_n h rfl (Nat.le_of_ble_eq_true rfl) ?_
  refine tw_mem (fun q j => ?_) (loop 16 0 (by omega))
  try simp only [tw_up, tw_n0, tw_n1, tw_n2, false_and, and_false, true_and, and_true, false_or, or_false, if_true, if_false]
  (repeat' split) <;> first | rfl | omega | exact tw_cgf (by omega) (by omega)
set_option maxRecDepth 20000 in
theorem s_countHeld {fl : Bool} {d : Nat} {f : tw_S} {P : tw_S → Option tw_A → Prop} {q : Nat} (he : tx_isE q) (hP : P f (some (tw_I (nI (p_cnt (f (q + 1)) 32))))) : tS fl (d + 1) 46 [tw_R q] f P := by
  obtain ⟨l0, l1, l2, l3, l4⟩ := tx_ent he
  refine tw_Sp_of rfl rfl (Nat.le_of_ble_eq_true rfl) (fun X h => ?_)
  have loop : ∀ n i : Nat, i + n = 32 → X 4 [some (tw_R q), some (tw_I (nI (p_cnt (f (q + 1)) i))), some (tw_I (nI i))] [] tx_L0 f := by
    intro n
    induction n with
    | zero =>
      intro i hi
      obtain rfl : i = 32 := by omega
      refine zi_iload_n h rfl rfl ?_
      refine zn_bipush h 32 rfl rfl ?_
      first | refine zn_icmpge h rfl (by omega) (by omega) (fun hc => ?_) (fun hc => ?_) | refine zc_icmpge h rfl (fun hc => ?_) (fun hc => ?_)
      · refine zi_iload_n h rfl rfl ?_
        refine zi_iret h rfl ?_
        exact hP
      · omega
    | succ n ih =>
      intro i hi
      have ih := ih (i + 1) (by omega)
      refine zi_iload_n h rfl rfl ?_
      refine zn_bipush h 32 rfl rfl ?_
      first | refine zn_icmpge h rfl (by omega) (by omega) (fun hc => ?_) (fun hc => ?_) | refine zc_icmpge h rfl (fun hc => ?_) (fun hc => ?_)
      · omega
      · refine zi_iload_n h rfl rfl ?_
        refine zi_aload_n h rfl rfl ?_
        refine zg_ref h rfl (by first | rfl | assumption) (by decide) rfl rfl ?_
        refine zi_iload_n h rfl rfl ?_
        refine za_z h rfl (by first | rfl | assumption) rfl (by omega) (by decide) ?_
        first | refine zb_ifeq h rfl (fun hc => ?_) (fun hc => ?_) | refine zc_ifeq h rfl (fun hc => ?_) (fun hc => ?_)
        · rw [show p_cnt (f (q + 1)) (i + 1) = p_cnt (f (q + 1)) i + 0 by simp [p_cnt, hc]] at ih
          refine zn_iconst h 0 rfl rfl ?_
          first | refine zn_iadd h rfl ?_ | refine zi_iadd h rfl ?_
          refine zi_istore_n h rfl (Nat.le_of_ble_eq_true rfl) ?_
          first | refine zn_iinc h 1 rfl rfl rfl ?_ | refine zi_iinc h rfl rfl ?_
          refine zi_goto h rfl ?_
          exact ih
        · rw [show p_cnt (f (q + 1)) (i + 1) = p_cnt (f (q + 1)) i + 1 by simp [p_cnt, hc]] at ih
          refine zn_iconst h 1 rfl rfl ?_
          refine zi_goto h rfl ?_
          first | refine zn_iadd h rfl ?_ | refine zi_iadd h rfl ?_
          refine zi_istore_n h rfl (Nat.le_of_ble_eq_true rfl) ?_
          first | refine zn_iinc h 1 rfl rfl rfl ?_ | refine zi_iinc h rfl rfl ?_
          refine zi_goto h rfl ?_
          exact ih
  refine zn_iconst h 0 rfl rfl ?_
  refine zi_istore_n h rfl (Nat.le_of_ble_eq_true rfl) ?_
  refine zn_iconst h 0 rfl rfl ?_
  refine zi_istore_n h rfl (Nat.le_of_ble_eq_true rfl) ?_
  exact loop 32 0 (by omega)
set_option maxRecDepth 20000 in
theorem s_countDirtyOfStripe {fl : Bool} {d : Nat} {f : tw_S} {P : tw_S → Option tw_A → Prop} {q s : Nat} (he : tx_isE q) (hs : s < 8) (hP : P f (some (tw_I (nI (p_cnt (fun j => f (q + 2) (s * 4 + j)) 4))))) : tS fl (d + 1) 14 [tw_R q, tw_I (nI s)] f P := by
  obtain ⟨l0, l1, l2, l3, l4⟩ := tx_ent he
  refine tw_Sp_of rfl rfl (Nat.le_of_ble_eq_true rfl) (fun X h => ?_)
  have loop : ∀ n i : Nat, i + n = 4 → X 4 [some (tw_R q), some (tw_I (nI s)), some (tw_I (nI (p_cnt (fun j => f (q + 2) (s * 4 + j)) i))), some (tw_I (nI i))] [] tx_L0 f := by
    intro n
    induction n with
    | zero =>
      intro i hi
      obtain rfl : i = 4 := by omega
      refine zi_iload_n h rfl rfl ?_
      refine zn_iconst h 4 rfl rfl ?_
      first | refine zn_icmpge h rfl (by omega) (by omega) (fun hc => ?_) (fun hc => ?_) | refine zc_icmpge h rfl (fun hc => ?_) (fun hc => ?_)
      · refine zi_iload_n h rfl rfl ?_
        refine zi_iret h rfl ?_
        exact hP
      · omega
    | succ n ih =>
      intro i hi
      have ih := ih (i + 1) (by omega)
      refine zi_iload_n h rfl rfl ?_
      refine zn_iconst h 4 rfl rfl ?_
      first | refine zn_icmpge h rfl (by omega) (by omega) (fun hc => ?_) (fun hc => ?_) | refine zc_icmpge h rfl (fun hc => ?_) (fun hc => ?_)
      · omega
      · refine zi_iload_n h rfl rfl ?_
        refine zi_aload_n h rfl rfl ?_
        refine zg_ref h rfl (by first | rfl | assumption) (by decide) rfl rfl ?_
        refine zi_iload_n h rfl rfl ?_
        refine zn_iconst h 4 rfl rfl ?_
        first | refine zn_imul h rfl ?_ | refine zi_imul h rfl ?_
        refine zi_iload_n h rfl rfl ?_
        first | refine zn_iadd h rfl ?_ | refine zi_iadd h rfl ?_
        refine za_z h rfl (by first | rfl | assumption) rfl (by omega) (by decide) ?_
        first | refine zb_ifeq h rfl (fun hc => ?_) (fun hc => ?_) | refine zc_ifeq h rfl (fun hc => ?_) (fun hc => ?_)
        · rw [show p_cnt (fun j => f (q + 2) (s * 4 + j)) (i + 1) = p_cnt (fun j => f (q + 2) (s * 4 + j)) i + 0 by simp [p_cnt, hc]] at ih
          refine zn_iconst h 0 rfl rfl ?_
          first | refine zn_iadd h rfl ?_ | refine zi_iadd h rfl ?_
          refine zi_istore_n h rfl (Nat.le_of_ble_eq_true rfl) ?_
          first | refine zn_iinc h 1 rfl rfl rfl ?_ | refine zi_iinc h rfl rfl ?_
          refine zi_goto h rfl ?_
          exact ih
        · rw [show p_cnt (fun j => f (q + 2) (s * 4 + j)) (i + 1) = p_cnt (fun j => f (q + 2) (s * 4 + j)) i + 1 by simp [p_cnt, hc]] at ih
          refine zn_iconst h 1 rfl rfl ?_
          refine zi_goto h rfl ?_
          first | refine zn_iadd h rfl ?_ | refine zi_iadd h rfl ?_
          refine zi_istore_n h rfl (Nat.le_of_ble_eq_true rfl) ?_
          first | refine zn_iinc h 1 rfl rfl rfl ?_ | refine zi_iinc h rfl rfl ?_
          refine zi_goto h rfl ?_
          exact ih
  refine zn_iconst h 0 rfl rfl ?_
  refine zi_istore_n h rfl (Nat.le_of_ble_eq_true rfl) ?_
  refine zn_iconst h 0 rfl rfl ?_
  refine zi_istore_n h rfl (Nat.le_of_ble_eq_true rfl) ?_
  exact loop 4 0 (by omega)
set_option maxRecDepth 20000 in
theorem s_countDirty {fl : Bool} {d : Nat} {f : tw_S} {P : tw_S → Option tw_A → Prop} {q : Nat} (he : tx_isE q) (hP : P f (some (tw_I (nI (p_cd (f (q + 2)) 8))))) : tS fl (d + 2) 15 [tw_R q] f P := by
  obtain ⟨l0, l1, l2, l3, l4⟩ := tx_ent he
  refine tw_Sp_of rfl rfl (Nat.le_of_ble_eq_true rfl) (fun X h => ?_)
  have loop : ∀ n i : Nat, i + n = 8 → X 4 [some (tw_R q), some (tw_I (nI (p_cd (f (q + 2)) i))), some (tw_I (nI i))] [] tx_L0 f := by
    intro n
    induction n with
    | zero =>
      intro i hi
      obtain rfl : i = 8 := by omega
      refine zi_iload_n h rfl rfl ?_
      refine zn_bipush h 8 rfl rfl ?_
      first | refine zn_icmpge h rfl (by omega) (by omega) (fun hc => ?_) (fun hc => ?_) | refine zc_icmpge h rfl (fun hc => ?_) (fun hc => ?_)
      · refine zi_iload_n h rfl rfl ?_
        refine zi_iret h rfl ?_
        exact hP
      · omega
    | succ n ih =>
      intro i hi
      have ih := ih (i + 1) (by omega)
      refine zi_iload_n h rfl rfl ?_
      refine zn_bipush h 8 rfl rfl ?_
      first | refine zn_icmpge h rfl (by omega) (by omega) (fun hc => ?_) (fun hc => ?_) | refine zc_icmpge h rfl (fun hc => ?_) (fun hc => ?_)
      · omega
      · refine zi_iload_n h rfl rfl ?_
        refine zi_aload_n h rfl rfl ?_
        refine zi_iload_n h rfl rfl ?_
        refine zk_V h [_] rfl (by first | rfl | assumption) rfl rfl (Nat.le_of_ble_eq_true rfl) (s_countDirtyOfStripe he (by omega) ?_)
        first | refine zn_iadd h rfl ?_ | refine zi_iadd h rfl ?_
        refine zi_istore_n h rfl (Nat.le_of_ble_eq_true rfl) ?_
        first | refine zn_iinc h 1 rfl rfl rfl ?_ | refine zi_iinc h rfl rfl ?_
        refine zi_goto h rfl ?_
        exact ih
  refine zn_iconst h 0 rfl rfl ?_
  refine zi_istore_n h rfl (Nat.le_of_ble_eq_true rfl) ?_
  refine zn_iconst h 0 rfl rfl ?_
  refine zi_istore_n h rfl (Nat.le_of_ble_eq_true rfl) ?_
  exact loop 8 0 (by omega)
set_option maxRecDepth 20000 in
theorem s_dirtiestStripe {fl : Bool} {d : Nat} {f : tw_S} {P : tw_S → Option tw_A → Prop} {q : Nat} (he : tx_isE q) (hP : P f (some (tw_I (nI (p_ds (f (q + 2)) 7))))) : tS fl (d + 2) 41 [tw_R q] f P := by
  obtain ⟨l0, l1, l2, l3, l4⟩ := tx_ent he
  refine tw_Sp_of rfl rfl (Nat.le_of_ble_eq_true rfl) (fun X h => ?_)
  have loop : ∀ n i : Nat, i + n = 7 → X 4 [some (tw_R q), some (tw_I (nI (p_ds (f (q + 2)) i))), some (tw_I (nI (i + 1)))] [] tx_L0 f := by
    intro n
    induction n with
    | zero =>
      intro i hi
      obtain rfl : i = 7 := by omega
      refine zi_iload_n h rfl rfl ?_
      refine zn_bipush h 8 rfl rfl ?_
      first | refine zn_icmpge h rfl (by omega) (by omega) (fun hc => ?_) (fun hc => ?_) | refine zc_icmpge h rfl (fun hc => ?_) (fun hc => ?_)
      · refine zi_iload_n h rfl rfl ?_
        refine zi_iret h rfl ?_
        exact hP
      · omega
    | succ n ih =>
      intro i hi
      have ih := ih (i + 1) (by omega)
      have hb := p_ds_le (f (q + 2)) i
      have hb1 := p_cnt_le (fun j => f (q + 2) (p_ds (f (q + 2)) i * 4 + j)) 4
      have hb2 := p_cnt_le (fun j => f (q + 2) ((i + 1) * 4 + j)) 4
      refine zi_iload_n h rfl rfl ?_
      refine zn_bipush h 8 rfl rfl ?_
      first | refine zn_icmpge h rfl (by omega) (by omega) (fun hc => ?_) (fun hc => ?_) | refine zc_icmpge h rfl (fun hc => ?_) (fun hc => ?_)
      · omega
      · refine zi_aload_n h rfl rfl ?_
        refine zi_iload_n h rfl rfl ?_
        refine zk_V h [_] rfl (by first | rfl | assumption) rfl rfl (Nat.le_of_ble_eq_true rfl) (s_countDirtyOfStripe he (by omega) ?_)
        refine zi_aload_n h rfl rfl ?_
        refine zi_iload_n h rfl rfl ?_
        refine zk_V h [_] rfl (by first | rfl | assumption) rfl rfl (Nat.le_of_ble_eq_true rfl) (s_countDirtyOfStripe he (by omega) ?_)
        first | refine zn_icmple h rfl (by omega) (by omega) (fun hc => ?_) (fun hc => ?_) | refine zc_icmple h rfl (fun hc => ?_) (fun hc => ?_)
        · rw [show p_ds (f (q + 2)) (i + 1) = p_ds (f (q + 2)) i from if_neg (by omega)] at ih
          first | refine zn_iinc h 1 rfl rfl rfl ?_ | refine zi_iinc h rfl rfl ?_
          refine zi_goto h rfl ?_
          exact ih
        · rw [show p_ds (f (q + 2)) (i + 1) = i + 1 from if_pos (by omega)] at ih
          refine zi_iload_n h rfl rfl ?_
          refine zi_istore_n h rfl (Nat.le_of_ble_eq_true rfl) ?_
          first | refine zn_iinc h 1 rfl rfl rfl ?_ | refine zi_iinc h rfl rfl ?_
          refine zi_goto h rfl ?_
          exact ih
  refine zn_iconst h 0 rfl rfl ?_
  refine zi_istore_n h rfl (Nat.le_of_ble_eq_true rfl) ?_
  refine zn_iconst h 1 rfl rfl ?_
  refine zi_istore_n h rfl (Nat.le_of_ble_eq_true rfl) ?_
  exact loop 7 0 (by omega)
set_option maxRecDepth 20000 in
theorem s_iadd_box {fl : Bool} {d : Nat} {f : tw_S} {P : tw_S → Option tw_A → Prop} {q a m : Nat} {k p v w t : Int32} (hq : q = 28 ∨ q = 50) (ha : f q 5 = nI a) (ha2 : a < 40) (hm : f q 6 = nI m) (hm2 : m ≤ 40) (h1 : m < 40 → P (tw_up (tw_up (tw_up (tw_up (tw_up (tw_up f (q + 1) ((a + m) % 40) k) (q + 2) ((a + m) % 40) p) (q + 3) ((a + m) % 40) v) (q + 4) ((a + m) % 40) w) (q + 5) ((a + m) % 40) t) q 6 (nI (m + 1))) none) (h2 : m = 40 → P f none) : tS fl (d + 1) 47 [tw_R q, tw_I k, tw_I p, tw_I v, tw_I w, tw_I t] f P := by
  obtain ⟨l0, l1, l2, l3, l4, l5⟩ := tx_inb hq
  refine tw_Sp_of rfl rfl (Nat.le_of_ble_eq_true rfl) (fun X h => ?_)
  refine zi_aload_n h rfl rfl ?_
  refine zg_nat h m rfl (by first | rfl | assumption) (by decide) rfl hm ?_
  refine zn_bipush h 40 rfl rfl ?_
  first | refine zn_icmpge h rfl (by omega) (by omega) (fun hc => ?_) (fun hc => ?_) | refine zc_icmpge h rfl (fun hc => ?_) (fun hc => ?_)
  · refine zi_vret h rfl ?_
    exact h2 (by omega)
  · refine zi_aload_n h rfl rfl ?_
    refine zg_nat h a rfl (by first | rfl | assumption) (by decide) rfl ha ?_
    refine zi_aload_n h rfl rfl ?_
    refine zg_nat h m rfl (by first | rfl | assumption) (by decide) rfl hm ?_
    first | refine zn_iadd h rfl ?_ | refine zi_iadd h rfl ?_
    refine zn_bipush h 40 rfl rfl ?_
    refine zn_irem h rfl (by omega) (by omega) (by omega) ?_
    refine zi_istore h rfl (Nat.le_of_ble_eq_true rfl) ?_
    refine zi_aload_n h rfl rfl ?_
    refine zg_ref h rfl (by first | rfl | assumption) (by decide) rfl rfl ?_
    refine zi_iload h rfl rfl ?_
    refine zi_iload_n h rfl rfl ?_
    refine zs_i h rfl (by first | rfl | assumption) rfl (by omega) (by decide) ?_
    refine zi_aload_n h rfl rfl ?_
    show X 18 _ _ _ _
    refine zg_ref h rfl (by first | rfl | assumption) (by decide) rfl rfl ?_
    refine zi_iload h rfl rfl ?_
    refine zi_iload_n h rfl rfl ?_
    refine zs_i h rfl (by first | rfl | assumption) rfl (by omega) (by decide) ?_
    refine zi_aload_n h rfl rfl ?_
    refine zg_ref h rfl (by first | rfl | assumption) (by decide) rfl rfl ?_
    refine zi_iload h rfl rfl ?_
    refine zi_iload_n h rfl rfl ?_
    refine zs_i h rfl (by first | rfl | assumption) rfl (by omega) (by decide) ?_
    refine zi_aload_n h rfl rfl ?_
    show X 28 _ _ _ _
    refine zg_ref h rfl (by first | rfl | assumption) (by decide) rfl rfl ?_
    refine zi_iload h rfl rfl ?_
    refine zi_iload h rfl rfl ?_
    refine zs_i h rfl (by first | rfl | assumption) rfl (by omega) (by decide) ?_
    refine zi_aload_n h rfl rfl ?_
    refine zg_ref h rfl (by first | rfl | assumption) (by decide) rfl rfl ?_
    refine zi_iload h rfl rfl ?_
    refine zi_iload h rfl rfl ?_
    refine zs_i h rfl (by first | rfl | assumption) rfl (by omega) (by decide) ?_
    refine zi_aload_n h rfl rfl ?_
    show X 38 _ _ _ _
    refine zi_dup h rfl rfl ?_
    refine zg_nat h m rfl (by first | rfl | assumption) (by decide) rfl (by simp [tw_up, hm]) ?_
    refine zn_iconst h 1 rfl rfl ?_
    first | refine zn_iadd h rfl ?_ | refine zi_iadd h rfl ?_
    refine zp_int h rfl (by first | rfl | assumption) (by decide) rfl ?_
    refine zi_vret h rfl ?_
    exact h1 hc
set_option maxRecDepth 20000 in
theorem s_takeFirst {fl : Bool} {d : Nat} {f : tw_S} {P : tw_S → Option tw_A → Prop} {q a m : Nat} (hq : q = 28 ∨ q = 50) (ha : f q 5 = nI a) (ha2 : a < 40) (hm : f q 6 = nI m) (hm2 : m ≤ 40) (hm3 : 1 ≤ m) (hP : P (tw_up (tw_up f q 5 (nI ((a + 1) % 40))) q 6 (nI (m - 1))) (some (tw_I (nI a)))) : tS fl (d + 1) 48 [tw_R q] f P := by
  obtain ⟨l0, l1, l2, l3, l4, l5⟩ := tx_inb hq
  refine tw_Sp_of rfl rfl (Nat.le_of_ble_eq_true rfl) (fun X h => ?_)
  refine zi_aload_n h rfl rfl ?_
  refine zg_nat h a rfl (by first | rfl | assumption) (by decide) rfl ha ?_
  refine zi_istore_n h rfl (Nat.le_of_ble_eq_true rfl) ?_
  refine zi_aload_n h rfl rfl ?_
  refine zi_aload_n h rfl rfl ?_
  refine zg_nat h a rfl (by first | rfl | assumption) (by decide) rfl ha ?_
  refine zn_iconst h 1 rfl rfl ?_
  first | refine zn_iadd h rfl ?_ | refine zi_iadd h rfl ?_
  refine zn_bipush h 40 rfl rfl ?_
  refine zn_irem h rfl (by omega) (by omega) (by omega) ?_
  refine zp_int h rfl (by first | rfl | assumption) (by decide) rfl ?_
  refine zi_aload_n h rfl rfl ?_
  refine zi_dup h rfl rfl ?_
  refine zg_nat h m rfl (by first | rfl | assumption) (by decide) rfl (by simp [tw_up, hm]) ?_
  refine zn_iconst h 1 rfl rfl ?_
  first | refine zn_isub h rfl (by omega) ?_ | refine zi_isub h rfl ?_
  refine zp_int h rfl (by first | rfl | assumption) (by decide) rfl ?_
  refine zi_iload_n h rfl rfl ?_
  refine zi_iret h rfl ?_
  exact hP
set_option maxRecDepth 20000 in
theorem s_empty {fl : Bool} {d : Nat} {f : tw_S} {P : tw_S → Option tw_A → Prop} {q : Nat} (hq : q = 28 ∨ q = 50) (hP : P (tw_up f q 6 0) none) : tS fl (d + 1) 17 [tw_R q] f P := by
  obtain ⟨l0, l1, l2, l3, l4, l5⟩ := tx_inb hq
  refine tw_Sp_of rfl rfl (Nat.le_of_ble_eq_true rfl) (fun X h => ?_)
  refine zi_aload_n h rfl rfl ?_
  refine zn_iconst h 0 rfl rfl ?_
  refine zp_int h rfl (by first | rfl | assumption) (by decide) rfl ?_
  refine zi_vret h rfl ?_
  exact hP
set_option maxRecDepth 20000 in
theorem s_xorOfData {fl : Bool} {d : Nat} {f : tw_S} {P : tw_S → Option tw_A → Prop} {q : Nat} (hq : q = 34 ∨ q = 56) (hP : P f (some (tw_I (p_x4 (f (q + 2)) 4)))) : tS fl (d + 1) 20 [tw_R q] f P := by
  obtain ⟨l0, l1, l2, l3⟩ := tx_des hq
  refine tw_Sp_of rfl rfl (Nat.le_of_ble_eq_true rfl) (fun X h => ?_)
  have loop : ∀ n i : Nat, i + n = 4 → X 4 [some (tw_R q), some (tw_I (p_x4 (f (q + 2)) i)), some (tw_I (nI i))] [] tx_L0 f := by
    intro n
    induction n with
    | zero =>
      intro i hi
      obtain rfl : i = 4 := by omega
      refine zi_iload_n h rfl rfl ?_
      refine zn_iconst h 4 rfl rfl ?_
      first | refine zn_icmpge h rfl (by omega) (by omega) (fun hc => ?_) (fun hc => ?_) | refine zc_icmpge h rfl (fun hc => ?_) (fun hc => ?_)
      · refine zi_iload_n h rfl rfl ?_
        refine zi_iret h rfl ?_
        exact hP
      · omega
    | succ n ih =>
      intro i hi
      have ih := ih (i + 1) (by omega)
      refine zi_iload_n h rfl rfl ?_
      refine zn_iconst h 4 rfl rfl ?_
      first | refine zn_icmpge h rfl (by omega) (by omega) (fun hc => ?_) (fun hc => ?_) | refine zc_icmpge h rfl (fun hc => ?_) (fun hc => ?_)
      · omega
      · refine zi_iload_n h rfl rfl ?_
        refine zi_aload_n h rfl rfl ?_
        refine zg_ref h rfl (by first | rfl | assumption) (by decide) rfl rfl ?_
        refine zi_iload_n h rfl rfl ?_
        refine za_i h rfl (by first | rfl | assumption) rfl (by omega) (by decide) ?_
        refine zi_ixor h rfl ?_
        refine zi_istore_n h rfl (Nat.le_of_ble_eq_true rfl) ?_
        first | refine zn_iinc h 1 rfl rfl rfl ?_ | refine zi_iinc h rfl rfl ?_
        refine zi_goto h rfl ?_
        exact ih
  refine zn_iconst h 0 rfl rfl ?_
  refine zi_istore_n h rfl (Nat.le_of_ble_eq_true rfl) ?_
  refine zn_iconst h 0 rfl rfl ?_
  refine zi_istore_n h rfl (Nat.le_of_ble_eq_true rfl) ?_
  exact loop 4 0 (by omega)
set_option maxRecDepth 20000 in
theorem s_dbegin {fl : Bool} {d : Nat} {f : tw_S} {P : tw_S → Option tw_A → Prop} {q : Nat} {v : Int32} (hq : q = 34 ∨ q = 56) (hP : P (fun c j => if (c = q + 1 ∨ c = q + 2) ∧ j < 4 then 0 else if c = q ∧ j = 3 then v else if c = q ∧ (j = 4 ∨ j = 5 ∨ j = 6) then 0 else f c j) none) : tS fl (d + 1) 21 [tw_R q, tw_I v] f P := by
  obtain ⟨l0, l1, l2, l3⟩ := tx_des hq
  refine tw_Sp_of rfl rfl (Nat.le_of_ble_eq_true rfl) (fun X h => ?_)
  have loop : ∀ n i : Nat, i + n = 4 → X 14 [some (tw_R q), some (tw_I v), some (tw_I (nI i))] [] tx_L0 (fun c j => if (c = q + 1 ∨ c = q + 2) ∧ j < i then 0 else if c = q ∧ j = 3 then v else if c = q ∧ (j = 4 ∨ j = 5 ∨ j = 6) then 0 else f c j) := by
    intro n
    induction n with
    | zero =>
      intro i hi
      obtain rfl : i = 4 := by omega
      refine zi_iload_n h rfl rfl ?_
      refine zn_iconst h 4 rfl rfl ?_
      first | refine zn_icmpge h rfl (by omega) (by omega) (fun hc => ?_) (fun hc => ?_) | refine zc_icmpge h rfl (fun hc => ?_) (fun hc => ?_)
      · refine zi_vret h rfl ?_
        exact hP
      · omega
    | succ n ih =>
      intro i hi
      have ih := ih (i + 1) (by omega)
      refine zi_iload_n h rfl rfl ?_
      refine zn_iconst h 4 rfl rfl ?_
      first | refine zn_icmpge h rfl (by omega) (by omega) (fun hc => ?_) (fun hc => ?_) | refine zc_icmpge h rfl (fun hc => ?_) (fun hc => ?_)
      · omega
      · refine zi_aload_n h rfl rfl ?_
        refine zg_ref h rfl (by first | rfl | assumption) (by decide) rfl rfl ?_
        refine zi_iload_n h rfl rfl ?_
        refine zn_iconst h 0 rfl rfl ?_
        refine zs_z h rfl (by first | rfl | assumption) rfl (by omega) (by decide) (by first | exact Or.inl rfl | exact Or.inr rfl | assumption) ?_
        refine zi_aload_n h rfl rfl ?_
        refine zg_ref h rfl (by first | rfl | assumption) (by decide) rfl rfl ?_
        refine zi_iload_n h rfl rfl ?_
        refine zn_iconst h 0 rfl rfl ?_
        refine zs_i h rfl (by first | rfl | assumption) rfl (by omega) (by decide) ?_
        show X 27 _ _ _ _
        first | refine zn_iinc h 1 rfl rfl rfl ?_ | refine zi_iinc h rfl rfl ?_
        refine zi_goto h rfl ?_
        refine tw_mem (fun q j => ?_) (ih)
        try simp only [tw_up, tw_n0, tw_n1, tw_n2, false_and, and_false, true_and, and_true, false_or, or_false, if_true, if_false]
        (repeat' split) <;> first | rfl | omega | exact tw_cgf (by omega) (by omega)
  refine zi_aload_n h rfl rfl ?_
  refine zi_iload_n h rfl rfl ?_
  refine zp_int h rfl (by first | rfl | assumption) (by decide) rfl ?_
  refine zi_aload_n h rfl rfl ?_
  refine zn_iconst h 0 rfl rfl ?_
  refine zp_int h rfl (by first | rfl | assumption) (by decide) rfl ?_
  refine zi_aload_n h rfl rfl ?_
  refine zn_iconst h 0 rfl rfl ?_
  refine zp_boo h rfl (by first | rfl | assumption) (by decide) rfl (by first | exact Or.inl rfl | exact Or.inr rfl | assumption) ?_
  refine zi_aload_n h rfl rfl ?_
  show X 10 _ _ _ _
  refine zn_iconst h 0 rfl rfl ?_
  refine zp_boo h rfl (by first | rfl | assumption) (by decide) rfl (by first | exact Or.inl rfl | exact Or.inr rfl | assumption) ?_
  refine zn_iconst h 0 rfl rfl ?_
  refine zi_istore_n h rfl (Nat.le_of_ble_eq_true rfl) ?_
  refine tw_mem (fun q j => ?_) (loop 4 0 (by omega))
  try simp only [tw_up, tw_n0, tw_n1, tw_n2, false_and, and_false, true_and, and_true, false_or, or_false, if_true, if_false]
  (repeat' split) <;> first | rfl | omega | exact tw_cgf (by omega) (by omega)
set_option maxRecDepth 20000 in
theorem s_takeDirty {fl : Bool} {d : Nat} {f : tw_S} {P : tw_S → Option tw_A → Prop} {q i : Nat} {v w : Int32} (hq : q = 34 ∨ q = 56) (hi : i < 4) (hP : P (tw_up (tw_up (tw_up f (q + 1) i 1) (q + 2) i v) (q + 3) i w) none) : tS fl (d + 1) 22 [tw_R q, tw_I (nI i), tw_I v, tw_I w] f P := by
  obtain ⟨l0, l1, l2, l3⟩ := tx_des hq
  refine tw_Sp_of rfl rfl (Nat.le_of_ble_eq_true rfl) (fun X h => ?_)
  refine zi_aload_n h rfl rfl ?_
  refine zg_ref h rfl (by first | rfl | assumption) (by decide) rfl rfl ?_
  refine zi_iload_n h rfl rfl ?_
  refine zn_iconst h 1 rfl rfl ?_
  refine zs_z h rfl (by first | rfl | assumption) rfl (by omega) (by decide) (by first | exact Or.inl rfl | exact Or.inr rfl | assumption) ?_
  refine zi_aload_n h rfl rfl ?_
  refine zg_ref h rfl (by first | rfl | assumption) (by decide) rfl rfl ?_
  refine zi_iload_n h rfl rfl ?_
  refine zi_iload_n h rfl rfl ?_
  refine zs_i h rfl (by first | rfl | assumption) rfl (by omega) (by decide) ?_
  show X 10 _ _ _ _
  refine zi_aload_n h rfl rfl ?_
  refine zg_ref h rfl (by first | rfl | assumption) (by decide) rfl rfl ?_
  refine zi_iload_n h rfl rfl ?_
  refine zi_iload_n h rfl rfl ?_
  refine zs_i h rfl (by first | rfl | assumption) rfl (by omega) (by decide) ?_
  refine zi_vret h rfl ?_
  exact hP
set_option maxRecDepth 20000 in
theorem s_wbegin {fl : Bool} {d : Nat} {f : tw_S} {P : tw_S → Option tw_A → Prop} {q : Nat} {a b v k : Int32} (hq : q = 38 ∨ q = 60) (hP : P (tw_up (tw_up (tw_up (tw_up (tw_up f q 0 1) q 1 a) q 2 b) q 3 v) q 4 k) none) : tS fl (d + 1) 23 [tw_R q, tw_I a, tw_I b, tw_I v, tw_I k] f P := by
  have l0 := tx_dwr hq
  refine tw_Sp_of rfl rfl (Nat.le_of_ble_eq_true rfl) (fun X h => ?_)
  refine zi_aload_n h rfl rfl ?_
  refine zn_iconst h 1 rfl rfl ?_
  refine zp_boo h rfl (by first | rfl | assumption) (by decide) rfl (by first | exact Or.inl rfl | exact Or.inr rfl | assumption) ?_
  refine zi_aload_n h rfl rfl ?_
  refine zi_iload_n h rfl rfl ?_
  refine zp_int h rfl (by first | rfl | assumption) (by decide) rfl ?_
  refine zi_aload_n h rfl rfl ?_
  refine zi_iload_n h rfl rfl ?_
  refine zp_int h rfl (by first | rfl | assumption) (by decide) rfl ?_
  refine zi_aload_n h rfl rfl ?_
  show X 10 _ _ _ _
  refine zi_iload_n h rfl rfl ?_
  refine zp_int h rfl (by first | rfl | assumption) (by decide) rfl ?_
  refine zi_aload_n h rfl rfl ?_
  refine zi_iload h rfl rfl ?_
  refine zp_int h rfl (by first | rfl | assumption) (by decide) rfl ?_
  refine zi_vret h rfl ?_
  exact hP
