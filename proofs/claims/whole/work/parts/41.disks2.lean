/-! The disks: the rest. -/
theorem s_withOther {fl : Bool} {d : Nat} {f : tw_S} {P : tw_S → Option tw_A → Prop} {key : Int32} (hP : P f (some (tw_I (nI (p_other (f 2) (f 3) key 5))))) : tS fl (d + 1) 25 [tw_R 1, tw_I key] f P := by
  refine tw_Sp_of rfl rfl (Nat.le_of_ble_eq_true rfl) (fun X h => ?_)
  have loop : ∀ n i : Nat, i + n = 5 → X 4 [some (tw_R 1), some (tw_I key), some (tw_I (nI (p_other (f 2) (f 3) key i))), some (tw_I (nI i))] [] tx_L0 f := by
    intro n
    induction n with
    | zero =>
      intro i hi
      obtain rfl : i = 5 := by omega
      refine zi_iload_n h rfl rfl ?_
      refine zn_iconst h 5 rfl rfl ?_
      first | refine zn_icmpge h rfl (by omega) (by omega) (fun hc => ?_) (fun hc => ?_) | refine zc_icmpge h rfl (fun hc => ?_) (fun hc => ?_)
      · refine zi_iload_n h rfl rfl ?_
        refine zi_iret h rfl ?_
        exact hP
      · omega
    | succ n ih =>
      intro i hi
      have ih := ih (i + 1) (by omega)
      refine zi_iload_n h rfl rfl ?_
      refine zn_iconst h 5 rfl rfl ?_
      first | refine zn_icmpge h rfl (by omega) (by omega) (fun hc => ?_) (fun hc => ?_) | refine zc_icmpge h rfl (fun hc => ?_) (fun hc => ?_)
      · omega
      · refine zi_aload_n h rfl rfl ?_
        refine zg_ref h rfl (by first | rfl | assumption) (by decide) rfl rfl ?_
        refine zi_iload_n h rfl rfl ?_
        refine za_z h rfl (by first | rfl | assumption) rfl (by omega) (by decide) ?_
        first | refine zb_ifeq h rfl (fun hc => ?_) (fun hc => ?_) | refine zc_ifeq h rfl (fun hc => ?_) (fun hc => ?_)
        · rw [show p_other (f 2) (f 3) key (i + 1) = p_other (f 2) (f 3) key i by simp [p_other, hc]] at ih
          first | refine zn_iinc h 1 rfl rfl rfl ?_ | refine zi_iinc h rfl rfl ?_
          refine zi_goto h rfl ?_
          exact ih
        · have hc0 := hc
          refine zi_aload_n h rfl rfl ?_
          refine zg_ref h rfl (by first | rfl | assumption) (by decide) rfl rfl ?_
          refine zi_iload_n h rfl rfl ?_
          refine za_i h rfl (by first | rfl | assumption) rfl (by omega) (by decide) ?_
          refine zi_iload_n h rfl rfl ?_
          first | refine zn_icmpeq h rfl (by omega) (by omega) (fun hc => ?_) (fun hc => ?_) | refine zc_icmpeq h rfl (fun hc => ?_) (fun hc => ?_)
          · rw [show p_other (f 2) (f 3) key (i + 1) = p_other (f 2) (f 3) key i by simp [p_other, hc]] at ih
            first | refine zn_iinc h 1 rfl rfl rfl ?_ | refine zi_iinc h rfl rfl ?_
            refine zi_goto h rfl ?_
            exact ih
          · rw [show p_other (f 2) (f 3) key (i + 1) = p_other (f 2) (f 3) key i + 1 by simp [p_other, hc0, hc]] at ih
            first | refine zn_iinc h 1 rfl rfl rfl ?_ | refine zi_iinc h rfl rfl ?_
            first | refine zn_iinc h 1 rfl rfl rfl ?_ | refine zi_iinc h rfl rfl ?_
            refine zi_goto h rfl ?_
            exact ih
  refine zn_iconst h 0 rfl rfl ?_
  refine zi_istore_n h rfl (Nat.le_of_ble_eq_true rfl) ?_
  refine zn_iconst h 0 rfl rfl ?_
  refine zi_istore_n h rfl (Nat.le_of_ble_eq_true rfl) ?_
  exact loop 5 0 (by omega)
theorem s_greatestKey {fl : Bool} {d : Nat} {f : tw_S} {P : tw_S → Option tw_A → Prop} (hP : P f (some (tw_I (p_great (f 2) (f 3) 5)))) : tS fl (d + 1) 37 [tw_R 1] f P := by
  refine tw_Sp_of rfl rfl (Nat.le_of_ble_eq_true rfl) (fun X h => ?_)
  have loop : ∀ n i : Nat, i + n = 5 → X 4 [some (tw_R 1), some (tw_I (p_great (f 2) (f 3) i)), some (tw_I (nI i))] [] tx_L0 f := by
    intro n
    induction n with
    | zero =>
      intro i hi
      obtain rfl : i = 5 := by omega
      refine zi_iload_n h rfl rfl ?_
      refine zn_iconst h 5 rfl rfl ?_
      first | refine zn_icmpge h rfl (by omega) (by omega) (fun hc => ?_) (fun hc => ?_) | refine zc_icmpge h rfl (fun hc => ?_) (fun hc => ?_)
      · refine zi_iload_n h rfl rfl ?_
        refine zi_iret h rfl ?_
        exact hP
      · omega
    | succ n ih =>
      intro i hi
      have ih := ih (i + 1) (by omega)
      refine zi_iload_n h rfl rfl ?_
      refine zn_iconst h 5 rfl rfl ?_
      first | refine zn_icmpge h rfl (by omega) (by omega) (fun hc => ?_) (fun hc => ?_) | refine zc_icmpge h rfl (fun hc => ?_) (fun hc => ?_)
      · omega
      · refine zi_aload_n h rfl rfl ?_
        refine zg_ref h rfl (by first | rfl | assumption) (by decide) rfl rfl ?_
        refine zi_iload_n h rfl rfl ?_
        refine za_z h rfl (by first | rfl | assumption) rfl (by omega) (by decide) ?_
        first | refine zb_ifeq h rfl (fun hc => ?_) (fun hc => ?_) | refine zc_ifeq h rfl (fun hc => ?_) (fun hc => ?_)
        · rw [show p_great (f 2) (f 3) (i + 1) = p_great (f 2) (f 3) i by simp [p_great, hc]] at ih
          first | refine zn_iinc h 1 rfl rfl rfl ?_ | refine zi_iinc h rfl rfl ?_
          refine zi_goto h rfl ?_
          exact ih
        · rw [show p_great (f 2) (f 3) (i + 1) = (if p_great (f 2) (f 3) i < f 3 i then f 3 i else p_great (f 2) (f 3) i) by simp [p_great, hc]] at ih
          refine zi_iload_n h rfl rfl ?_
          refine zi_aload_n h rfl rfl ?_
          refine zg_ref h rfl (by first | rfl | assumption) (by decide) rfl rfl ?_
          refine zi_iload_n h rfl rfl ?_
          refine za_i h rfl (by first | rfl | assumption) rfl (by omega) (by decide) ?_
          refine zi_max h rfl (Nat.le_of_ble_eq_true rfl) (Nat.le_refl _) (Nat.le_refl _) ?_
          refine zi_istore_n h rfl (Nat.le_of_ble_eq_true rfl) ?_
          first | refine zn_iinc h 1 rfl rfl rfl ?_ | refine zi_iinc h rfl rfl ?_
          refine zi_goto h rfl ?_
          exact ih
  refine zn_iconst h 0 rfl rfl ?_
  refine zi_istore_n h rfl (Nat.le_of_ble_eq_true rfl) ?_
  refine zn_iconst h 0 rfl rfl ?_
  refine zi_istore_n h rfl (Nat.le_of_ble_eq_true rfl) ?_
  exact loop 5 0 (by omega)
theorem s_insert {fl : Bool} {d : Nat} {f : tw_S} {P : tw_S → Option tw_A → Prop} {i : Nat} (hi : i < 5) (hP : P (tw_up (tw_up f 3 i (p_great (f 2) (f 3) 5)) 2 i 1) none) : tS fl (d + 2) 39 [tw_R 1, tw_I (nI i)] f P := by
  refine tw_Sp_of rfl rfl (Nat.le_of_ble_eq_true rfl) (fun X h => ?_)
  refine zi_aload_n h rfl rfl ?_
  refine zg_ref h rfl (by first | rfl | assumption) (by decide) rfl rfl ?_
  refine zi_iload_n h rfl rfl ?_
  refine zi_aload_n h rfl rfl ?_
  refine zk_V h [] rfl (by first | rfl | assumption) rfl rfl (Nat.le_of_ble_eq_true rfl) (s_greatestKey ?_)
  refine zs_i h rfl (by first | rfl | assumption) rfl (by omega) (by decide) ?_
  refine zi_aload_n h rfl rfl ?_
  refine zg_ref h rfl (by first | rfl | assumption) (by decide) rfl rfl ?_
  refine zi_iload_n h rfl rfl ?_
  refine zn_iconst h 1 rfl rfl ?_
  refine zs_z h rfl (by first | rfl | assumption) rfl (by omega) (by decide) (by first | exact Or.inl rfl | exact Or.inr rfl | assumption) ?_
  refine zi_vret h rfl ?_
  exact hP
theorem s_firstThereFrom {fl : Bool} {d : Nat} {f : tw_S} {P : tw_S → Option tw_A → Prop} {i n : Nat} (hi : i + n = 5) (h1 : p_ft (f 2) n i < 5 → P f (some (tw_I (nI (p_ft (f 2) n i))))) (h2 : ¬ p_ft (f 2) n i < 5 → P f (some (tw_I (-1)))) : tS fl (d + 1) 35 [tw_R 1, tw_I (nI i)] f P := by
  refine tw_Sp_of rfl rfl (Nat.le_of_ble_eq_true rfl) (fun X h => ?_)
  have loop : ∀ m j : Nat, j + m = 5 → p_ft (f 2) m j = p_ft (f 2) n i → X 2 [some (tw_R 1), some (tw_I (nI i)), some (tw_I (nI j))] [] tx_L0 f := by
    intro m
    induction m with
    | zero =>
      intro j hj he
      obtain rfl : j = 5 := by omega
      have he : 5 = p_ft (f 2) n i := he
      refine zi_iload_n h rfl rfl ?_
      refine zn_iconst h 5 rfl rfl ?_
      first | refine zn_icmpge h rfl (by omega) (by omega) (fun hc => ?_) (fun hc => ?_) | refine zc_icmpge h rfl (fun hc => ?_) (fun hc => ?_)
      · refine zi_iconst h rfl ?_
        refine zi_iret h rfl ?_
        exact h2 (by omega)
      · omega
    | succ m ih =>
      intro j hj he
      refine zi_iload_n h rfl rfl ?_
      refine zn_iconst h 5 rfl rfl ?_
      first | refine zn_icmpge h rfl (by omega) (by omega) (fun hc => ?_) (fun hc => ?_) | refine zc_icmpge h rfl (fun hc => ?_) (fun hc => ?_)
      · omega
      · refine zi_aload_n h rfl rfl ?_
        refine zg_ref h rfl (by first | rfl | assumption) (by decide) rfl rfl ?_
        refine zi_iload_n h rfl rfl ?_
        refine za_z h rfl (by first | rfl | assumption) rfl (by omega) (by decide) ?_
        first | refine zb_ifeq h rfl (fun hc => ?_) (fun hc => ?_) | refine zc_ifeq h rfl (fun hc => ?_) (fun hc => ?_)
        · have ih := ih (j + 1) (by omega) (by rw [← he]; simp [p_ft, hc])
          first | refine zn_iinc h 1 rfl rfl rfl ?_ | refine zi_iinc h rfl rfl ?_
          refine zi_goto h rfl ?_
          exact ih
        · have he : j = p_ft (f 2) n i := by rw [← he]; simp [p_ft, hc]
          refine zi_iload_n h rfl rfl ?_
          refine zi_iret h rfl ?_
          have h1 := h1 (by omega)
          rw [← he] at h1
          exact h1
  refine zi_iload_n h rfl rfl ?_
  refine zi_istore_n h rfl (Nat.le_of_ble_eq_true rfl) ?_
  exact loop n i hi rfl
theorem s_lowestMissing {fl : Bool} {d : Nat} {f : tw_S} {P : tw_S → Option tw_A → Prop} {i : Nat} (hi : i < 5) (h1 : p_ft (fun s => f 5 (i * 8 + s)) 8 0 < 8 → P f (some (tw_I (nI (p_ft (fun s => f 5 (i * 8 + s)) 8 0))))) (h2 : ¬ p_ft (fun s => f 5 (i * 8 + s)) 8 0 < 8 → P f (some (tw_I (-1)))) : tS fl (d + 2) 40 [tw_R 1, tw_I (nI i)] f P := by
  refine tw_Sp_of rfl rfl (Nat.le_of_ble_eq_true rfl) (fun X h => ?_)
  have loop : ∀ m j : Nat, j + m = 8 → p_ft (fun s => f 5 (i * 8 + s)) m j = p_ft (fun s => f 5 (i * 8 + s)) 8 0 → X 2 [some (tw_R 1), some (tw_I (nI i)), some (tw_I (nI j))] [] tx_L0 f := by
    intro m
    induction m with
    | zero =>
      intro j hj he
      obtain rfl : j = 8 := by omega
      have he : 8 = p_ft (fun s => f 5 (i * 8 + s)) 8 0 := he
      refine zi_iload_n h rfl rfl ?_
      refine zn_bipush h 8 rfl rfl ?_
      first | refine zn_icmpge h rfl (by omega) (by omega) (fun hc => ?_) (fun hc => ?_) | refine zc_icmpge h rfl (fun hc => ?_) (fun hc => ?_)
      · refine zi_iconst h rfl ?_
        refine zi_iret h rfl ?_
        exact h2 (by omega)
      · omega
    | succ m ih =>
      intro j hj he
      refine zi_iload_n h rfl rfl ?_
      refine zn_bipush h 8 rfl rfl ?_
      first | refine zn_icmpge h rfl (by omega) (by omega) (fun hc => ?_) (fun hc => ?_) | refine zc_icmpge h rfl (fun hc => ?_) (fun hc => ?_)
      · omega
      · refine zi_aload_n h rfl rfl ?_
        refine zi_iload_n h rfl rfl ?_
        refine zi_iload_n h rfl rfl ?_
        refine zk_V h [_, _] rfl (by first | rfl | assumption) rfl rfl (Nat.le_of_ble_eq_true rfl) (s_isMissing (by omega) (by omega) ?_)
        first | refine zb_ifeq h rfl (fun hc => ?_) (fun hc => ?_) | refine zc_ifeq h rfl (fun hc => ?_) (fun hc => ?_)
        · have ih := ih (j + 1) (by omega) (by rw [← he]; simp [p_ft, hc])
          first | refine zn_iinc h 1 rfl rfl rfl ?_ | refine zi_iinc h rfl rfl ?_
          refine zi_goto h rfl ?_
          exact ih
        · have he : j = p_ft (fun s => f 5 (i * 8 + s)) 8 0 := by rw [← he]; simp [p_ft, hc]
          refine zi_iload_n h rfl rfl ?_
          refine zi_iret h rfl ?_
          have h1 := h1 (by omega)
          rw [← he] at h1
          exact h1
  refine zn_iconst h 0 rfl rfl ?_
  refine zi_istore_n h rfl (Nat.le_of_ble_eq_true rfl) ?_
  exact loop 8 0 (by omega) rfl
theorem s_isOtherMissing {fl : Bool} {d : Nat} {f : tw_S} {P : tw_S → Option tw_A → Prop} {i s : Nat} (hi : i < 5) (hs : s < 8) (h1 : p_om (f 5) i s 5 → P f (some (tw_I 1))) (h2 : ¬ p_om (f 5) i s 5 → P f (some (tw_I 0))) : tS fl (d + 2) 29 [tw_R 1, tw_I (nI i), tw_I (nI s)] f P := by
  refine tw_Sp_of rfl rfl (Nat.le_of_ble_eq_true rfl) (fun X h => ?_)
  have loop : ∀ m j : Nat, j + m = 5 → ¬ p_om (f 5) i s j → X 2 [some (tw_R 1), some (tw_I (nI i)), some (tw_I (nI s)), some (tw_I (nI j))] [] tx_L0 f := by
    intro m
    induction m with
    | zero =>
      intro j hj he
      obtain rfl : j = 5 := by omega
      refine zi_iload_n h rfl rfl ?_
      refine zn_iconst h 5 rfl rfl ?_
      first | refine zn_icmpge h rfl (by omega) (by omega) (fun hc => ?_) (fun hc => ?_) | refine zc_icmpge h rfl (fun hc => ?_) (fun hc => ?_)
      · refine zn_iconst h 0 rfl rfl ?_
        refine zi_zret h rfl (by first | exact Or.inl rfl | exact Or.inr rfl | exact tw_nz_01 _ | assumption) ?_
        exact h2 he
      · omega
    | succ m ih =>
      intro j hj he
      refine zi_iload_n h rfl rfl ?_
      refine zn_iconst h 5 rfl rfl ?_
      first | refine zn_icmpge h rfl (by omega) (by omega) (fun hc => ?_) (fun hc => ?_) | refine zc_icmpge h rfl (fun hc => ?_) (fun hc => ?_)
      · omega
      · refine zi_iload_n h rfl rfl ?_
        refine zi_iload_n h rfl rfl ?_
        first | refine zn_icmpeq h rfl (by omega) (by omega) (fun hc => ?_) (fun hc => ?_) | refine zc_icmpeq h rfl (fun hc => ?_) (fun hc => ?_)
        · have ih := ih (j + 1) (by omega) (p_om_succ he (Or.inl hc))
          first | refine zn_iinc h 1 rfl rfl rfl ?_ | refine zi_iinc h rfl rfl ?_
          refine zi_goto h rfl ?_
          exact ih
        · have hc0 := hc
          refine zi_aload_n h rfl rfl ?_
          refine zi_iload_n h rfl rfl ?_
          refine zi_iload_n h rfl rfl ?_
          refine zk_V h [_, _] rfl (by first | rfl | assumption) rfl rfl (Nat.le_of_ble_eq_true rfl) (s_isMissing (by omega) (by omega) ?_)
          first | refine zb_ifeq h rfl (fun hc => ?_) (fun hc => ?_) | refine zc_ifeq h rfl (fun hc => ?_) (fun hc => ?_)
          · have ih := ih (j + 1) (by omega) (p_om_succ he (Or.inr hc))
            first | refine zn_iinc h 1 rfl rfl rfl ?_ | refine zi_iinc h rfl rfl ?_
            refine zi_goto h rfl ?_
            exact ih
          · refine zn_iconst h 1 rfl rfl ?_
            refine zi_zret h rfl (by first | exact Or.inl rfl | exact Or.inr rfl | exact tw_nz_01 _ | assumption) ?_
            exact h1 ⟨j, by omega, hc0, hc⟩
  refine zn_iconst h 0 rfl rfl ?_
  refine zi_istore_n h rfl (Nat.le_of_ble_eq_true rfl) ?_
  exact loop 5 0 (by omega) (fun ⟨o, ho, _⟩ => by omega)
theorem s_isAnyMissing {fl : Bool} {d : Nat} {f : tw_S} {P : tw_S → Option tw_A → Prop} {s : Nat} (hs : s < 8) (h1 : p_om (f 5) 5 s 5 → P f (some (tw_I 1))) (h2 : ¬ p_om (f 5) 5 s 5 → P f (some (tw_I 0))) : tS fl (d + 3) 36 [tw_R 1, tw_I (nI s)] f P := by
  refine tw_Sp_of rfl rfl (Nat.le_of_ble_eq_true rfl) (fun X h => ?_)
  refine zi_aload_n h rfl rfl ?_
  refine zn_iconst h 0 rfl rfl ?_
  refine zi_iload_n h rfl rfl ?_
  refine zk_V h [_, _] rfl (by first | rfl | assumption) rfl rfl (Nat.le_of_ble_eq_true rfl) (s_isMissing (by omega) (by omega) ?_)
  first | refine zb_ifne h rfl (fun hc => ?_) (fun hc => ?_) | refine zc_ifne h rfl (fun hc => ?_) (fun hc => ?_)
  · refine zn_iconst h 1 rfl rfl ?_
    refine zi_goto h rfl ?_
    refine zi_zret h rfl (by first | exact Or.inl rfl | exact Or.inr rfl | exact tw_nz_01 _ | assumption) ?_
    exact h1 ⟨0, by omega, by omega, hc⟩
  · have hc0 := hc
    refine zi_aload_n h rfl rfl ?_
    refine zn_iconst h 0 rfl rfl ?_
    refine zi_iload_n h rfl rfl ?_
    refine zk_V h [_, _] rfl (by first | rfl | assumption) rfl rfl (Nat.le_of_ble_eq_true rfl) (s_isOtherMissing (by omega) (by omega) (fun hm => ?_) (fun hm => ?_))
    · first | refine zb_ifeq h rfl (fun hc => ?_) (fun hc => ?_) | refine zc_ifeq h rfl (fun hc => ?_) (fun hc => ?_)
      · exact absurd hc (by decide)
      · refine zn_iconst h 1 rfl rfl ?_
        refine zi_goto h rfl ?_
        refine zi_zret h rfl (by first | exact Or.inl rfl | exact Or.inr rfl | exact tw_nz_01 _ | assumption) ?_
        obtain ⟨o, g1, g2, g3⟩ := hm
        exact h1 ⟨o, g1, by omega, g3⟩
    · first | refine zb_ifeq h rfl (fun hc => ?_) (fun hc => ?_) | refine zc_ifeq h rfl (fun hc => ?_) (fun hc => ?_)
      · refine zn_iconst h 0 rfl rfl ?_
        refine zi_zret h rfl (by first | exact Or.inl rfl | exact Or.inr rfl | exact tw_nz_01 _ | assumption) ?_
        refine h2 (fun ⟨o, g1, g2, g3⟩ => ?_)
        by_cases ho : o = 0
        · subst ho
          exact g3 hc0
        · exact hm ⟨o, g1, ho, g3⟩
      · exact absurd rfl hc
theorem s_xorOfOthers {fl : Bool} {d : Nat} {f : tw_S} {P : tw_S → Option tw_A → Prop} {i s : Nat} (hi : i < 5) (hs : s < 8) (hP : P f (some (tw_I (p_xor (f 4) i s 5)))) : tS fl (d + 2) 32 [tw_R 1, tw_I (nI i), tw_I (nI s)] f P := by
  refine tw_Sp_of rfl rfl (Nat.le_of_ble_eq_true rfl) (fun X h => ?_)
  have loop : ∀ m j : Nat, j + m = 5 → X 4 [some (tw_R 1), some (tw_I (nI i)), some (tw_I (nI s)), some (tw_I (p_xor (f 4) i s j)), some (tw_I (nI j))] [] tx_L0 f := by
    intro m
    induction m with
    | zero =>
      intro j hj
      obtain rfl : j = 5 := by omega
      refine zi_iload h rfl rfl ?_
      refine zn_iconst h 5 rfl rfl ?_
      first | refine zn_icmpge h rfl (by omega) (by omega) (fun hc => ?_) (fun hc => ?_) | refine zc_icmpge h rfl (fun hc => ?_) (fun hc => ?_)
      · refine zi_iload_n h rfl rfl ?_
        refine zi_iret h rfl ?_
        exact hP
      · omega
    | succ m ih =>
      intro j hj
      have ih := ih (j + 1) (by omega)
      refine zi_iload h rfl rfl ?_
      refine zn_iconst h 5 rfl rfl ?_
      first | refine zn_icmpge h rfl (by omega) (by omega) (fun hc => ?_) (fun hc => ?_) | refine zc_icmpge h rfl (fun hc => ?_) (fun hc => ?_)
      · omega
      · refine zi_iload h rfl rfl ?_
        refine zi_iload_n h rfl rfl ?_
        first | refine zn_icmpeq h rfl (by omega) (by omega) (fun hc => ?_) (fun hc => ?_) | refine zc_icmpeq h rfl (fun hc => ?_) (fun hc => ?_)
        · rw [show p_xor (f 4) i s (j + 1) = p_xor (f 4) i s j by simp [p_xor, hc]] at ih
          first | refine zn_iinc h 1 rfl rfl rfl ?_ | refine zi_iinc h rfl rfl ?_
          refine zi_goto h rfl ?_
          exact ih
        · rw [show p_xor (f 4) i s (j + 1) = p_xor (f 4) i s j ^^^ f 4 (j * 8 + s) by simp [p_xor, hc]] at ih
          refine zi_iload_n h rfl rfl ?_
          refine zi_aload_n h rfl rfl ?_
          refine zi_iload h rfl rfl ?_
          refine zi_iload_n h rfl rfl ?_
          refine zk_V h [_, _] rfl (by first | rfl | assumption) rfl rfl (Nat.le_of_ble_eq_true rfl) (s_blockOn (by omega) (by omega) ?_)
          refine zi_ixor h rfl ?_
          refine zi_istore_n h rfl (Nat.le_of_ble_eq_true rfl) ?_
          first | refine zn_iinc h 1 rfl rfl rfl ?_ | refine zi_iinc h rfl rfl ?_
          refine zi_goto h rfl ?_
          exact ih
  refine zn_iconst h 0 rfl rfl ?_
  refine zi_istore_n h rfl (Nat.le_of_ble_eq_true rfl) ?_
  refine zn_iconst h 0 rfl rfl ?_
  refine zi_istore h rfl (Nat.le_of_ble_eq_true rfl) ?_
  exact loop 5 0 (by omega)
theorem s_parityDisk {fl : Bool} {d : Nat} {f : tw_S} {P : tw_S → Option tw_A → Prop} {s : Nat} (hs : s < 8) (hP : P f (some (tw_I (nI (p_pd s))))) : tS fl (d + 1) 26 [tw_I (nI s)] f P := by
  refine tw_Sp_of rfl rfl (Nat.le_of_ble_eq_true rfl) (fun X h => ?_)
  refine zn_iconst h 4 rfl rfl ?_
  refine zi_iload_n h rfl rfl ?_
  refine zn_iconst h 5 rfl rfl ?_
  refine zn_irem h rfl (by omega) (by omega) (by omega) ?_
  first | refine zn_isub h rfl (by omega) ?_ | refine zi_isub h rfl ?_
  refine zi_iret h rfl ?_
  exact hP
theorem s_dataDisk {fl : Bool} {d : Nat} {f : tw_S} {P : tw_S → Option tw_A → Prop} {s k : Nat} (hs : s < 8) (hk : k < 4) (hP : P f (some (tw_I (nI (p_dd s k))))) : tS fl (d + 2) 27 [tw_I (nI s), tw_I (nI k)] f P := by
  refine tw_Sp_of rfl rfl (Nat.le_of_ble_eq_true rfl) (fun X h => ?_)
  refine zi_iload_n h rfl rfl ?_
  refine zi_iload_n h rfl rfl ?_
  refine zk_S h [_] rfl rfl rfl (Nat.le_of_ble_eq_true rfl) (s_parityDisk hs ?_)
  have hp : p_pd s < 5 := by unfold p_pd; omega
  first | refine zn_icmpge h rfl (by omega) (by omega) (fun hc => ?_) (fun hc => ?_) | refine zc_icmpge h rfl (fun hc => ?_) (fun hc => ?_)
  · refine zi_iload_n h rfl rfl ?_
    refine zn_iconst h 1 rfl rfl ?_
    first | refine zn_iadd h rfl ?_ | refine zi_iadd h rfl ?_
    refine zi_iret h rfl ?_
    rw [show p_dd s k = k + 1 from if_neg (by omega)] at hP
    exact hP
  · refine zi_iload_n h rfl rfl ?_
    refine zi_goto h rfl ?_
    refine zi_iret h rfl ?_
    rw [show p_dd s k = k from if_pos hc] at hP
    exact hP
def p_lost (mi : Nat → Int32) (bk : Nat) : Prop := ¬ mi (p_dd (bk / 4) (bk % 4) * 8 + bk / 4) = 0 ∧ p_om mi (p_dd (bk / 4) (bk % 4)) (bk / 4) 5
def p_what (mi bl : Nat → Int32) (bk : Nat) : Int32 := if mi (p_dd (bk / 4) (bk % 4) * 8 + bk / 4) = 0 then bl (p_dd (bk / 4) (bk % 4) * 8 + bk / 4) else p_xor bl (p_dd (bk / 4) (bk % 4)) (bk / 4) 5
theorem s_isDataLost {fl : Bool} {d : Nat} {f : tw_S} {P : tw_S → Option tw_A → Prop} {bk : Nat} (hb : bk < 32) (h1 : p_lost (f 5) bk → P f (some (tw_I 1))) (h2 : ¬ p_lost (f 5) bk → P f (some (tw_I 0))) : tS fl (d + 3) 30 [tw_R 1, tw_I (nI bk)] f P := by
  refine tw_Sp_of rfl rfl (Nat.le_of_ble_eq_true rfl) (fun X h => ?_)
  have hdd := p_dd_lt (s := bk / 4) (k := bk % 4) (by omega)
  refine zi_iload_n h rfl rfl ?_
  refine zn_iconst h 4 rfl rfl ?_
  refine zn_idiv h rfl (by omega) (by omega) (by omega) ?_
  refine zi_istore_n h rfl (Nat.le_of_ble_eq_true rfl) ?_
  refine zi_iload_n h rfl rfl ?_
  refine zi_iload_n h rfl rfl ?_
  refine zn_iconst h 4 rfl rfl ?_
  refine zn_irem h rfl (by omega) (by omega) (by omega) ?_
  refine zk_S h [_, _] rfl rfl rfl (Nat.le_of_ble_eq_true rfl) (s_dataDisk (by omega) (by omega) ?_)
  refine zi_istore_n h rfl (Nat.le_of_ble_eq_true rfl) ?_
  refine zi_aload_n h rfl rfl ?_
  refine zi_iload_n h rfl rfl ?_
  refine zi_iload_n h rfl rfl ?_
  refine zk_V h [_, _] rfl (by first | rfl | assumption) rfl rfl (Nat.le_of_ble_eq_true rfl) (s_isMissing hdd (by omega) ?_)
  first | refine zb_ifeq h rfl (fun hc => ?_) (fun hc => ?_) | refine zc_ifeq h rfl (fun hc => ?_) (fun hc => ?_)
  · refine zn_iconst h 0 rfl rfl ?_
    refine zi_zret h rfl (by first | exact Or.inl rfl | exact Or.inr rfl | exact tw_nz_01 _ | assumption) ?_
    exact h2 (fun g => g.1 hc)
  · have hc0 := hc
    refine zi_aload_n h rfl rfl ?_
    refine zi_iload_n h rfl rfl ?_
    refine zi_iload_n h rfl rfl ?_
    refine zk_V h [_, _] rfl (by first | rfl | assumption) rfl rfl (Nat.le_of_ble_eq_true rfl) (s_isOtherMissing hdd (by omega) (fun hm => ?_) (fun hm => ?_))
    · first | refine zb_ifeq h rfl (fun hc => ?_) (fun hc => ?_) | refine zc_ifeq h rfl (fun hc => ?_) (fun hc => ?_)
      · exact absurd hc (by decide)
      · refine zn_iconst h 1 rfl rfl ?_
        refine zi_goto h rfl ?_
        refine zi_zret h rfl (by first | exact Or.inl rfl | exact Or.inr rfl | exact tw_nz_01 _ | assumption) ?_
        exact h1 ⟨hc0, hm⟩
    · first | refine zb_ifeq h rfl (fun hc => ?_) (fun hc => ?_) | refine zc_ifeq h rfl (fun hc => ?_) (fun hc => ?_)
      · refine zn_iconst h 0 rfl rfl ?_
        refine zi_zret h rfl (by first | exact Or.inl rfl | exact Or.inr rfl | exact tw_nz_01 _ | assumption) ?_
        exact h2 (fun g => hm g.2)
      · exact absurd rfl hc
theorem s_dataOf {fl : Bool} {d : Nat} {f : tw_S} {P : tw_S → Option tw_A → Prop} {bk : Nat} (hb : bk < 32) (hP : P f (some (tw_I (p_what (f 5) (f 4) bk)))) : tS fl (d + 3) 33 [tw_R 1, tw_I (nI bk)] f P := by
  refine tw_Sp_of rfl rfl (Nat.le_of_ble_eq_true rfl) (fun X h => ?_)
  have hdd := p_dd_lt (s := bk / 4) (k := bk % 4) (by omega)
  refine zi_iload_n h rfl rfl ?_
  refine zn_iconst h 4 rfl rfl ?_
  refine zn_idiv h rfl (by omega) (by omega) (by omega) ?_
  refine zi_istore_n h rfl (Nat.le_of_ble_eq_true rfl) ?_
  refine zi_iload_n h rfl rfl ?_
  refine zi_iload_n h rfl rfl ?_
  refine zn_iconst h 4 rfl rfl ?_
  refine zn_irem h rfl (by omega) (by omega) (by omega) ?_
  refine zk_S h [_, _] rfl rfl rfl (Nat.le_of_ble_eq_true rfl) (s_dataDisk (by omega) (by omega) ?_)
  refine zi_istore_n h rfl (Nat.le_of_ble_eq_true rfl) ?_
  refine zi_aload_n h rfl rfl ?_
  refine zi_iload_n h rfl rfl ?_
  refine zi_iload_n h rfl rfl ?_
  refine zk_V h [_, _] rfl (by first | rfl | assumption) rfl rfl (Nat.le_of_ble_eq_true rfl) (s_isMissing hdd (by omega) ?_)
  first | refine zb_ifeq h rfl (fun hc => ?_) (fun hc => ?_) | refine zc_ifeq h rfl (fun hc => ?_) (fun hc => ?_)
  · refine zi_aload_n h rfl rfl ?_
    refine zi_iload_n h rfl rfl ?_
    refine zi_iload_n h rfl rfl ?_
    refine zk_V h [_, _] rfl (by first | rfl | assumption) rfl rfl (Nat.le_of_ble_eq_true rfl) (s_blockOn hdd (by omega) ?_)
    refine zi_iret h rfl ?_
    rw [show p_what (f 5) (f 4) bk = _ from if_pos hc] at hP
    exact hP
  · refine zi_aload_n h rfl rfl ?_
    refine zi_iload_n h rfl rfl ?_
    refine zi_iload_n h rfl rfl ?_
    refine zk_V h [_, _] rfl (by first | rfl | assumption) rfl rfl (Nat.le_of_ble_eq_true rfl) (s_xorOfOthers hdd (by omega) ?_)
    refine zi_goto h rfl ?_
    refine zi_iret h rfl ?_
    rw [show p_what (f 5) (f 4) bk = _ from if_neg hc] at hP
    exact hP
