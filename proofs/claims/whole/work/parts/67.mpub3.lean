/-! The reference: pair, moveOwner. -/
def k_any (f : tw_S) (n : Nat) : Prop := ∃ b, b < n ∧ f 69 (b / 16) = 0 ∧ f 69 (2 + b / 16) = 0 ∧ (¬ f 74 b = 0 ∨ ¬ f 74 (32 + b) = 0)
def k_ow (f : tw_S) (w v : Nat) : tw_S := if f 69 v = 0 ∧ f 69 (2 + v) = 0 then tw_up f 69 v 1 else if ¬ f 69 v = 0 ∧ ¬ f 69 (2 + v) = 0 then tw_up f 69 (2 * (1 - w) + v) 0 else f
def k_bp (f : tw_S) (c n m : Nat) : tw_S := fun q j => if q = 68 ∧ j = c then 1 else if (q = 95 ∨ q = 98) ∧ j = c then 0 else if (q = 70 ∨ q = 74) ∧ 32 * c ≤ j ∧ j < 32 * c + n then 0 else if q = 78 ∧ 8 * c ≤ j ∧ j < 8 * c + m then 0 else f q j
def k_pr (f : tw_S) (w : Nat) : tw_S := k_bp (k_bp (tw_up (k_ow (k_ow f w 0) w 1) 67 (1 - w) (f 67 w)) 0 32 8) 1 32 8
theorem k_ow_off {f : tw_S} {w v q j : Nat} (h : q ≠ 69) : k_ow f w v q j = f q j := by
  unfold k_ow
  (repeat' split) <;> first | rfl | exact tw_off (by omega)
set_option maxRecDepth 20000 in
theorem s_m_pair {fl : Bool} {d : Nat} {f : tw_S} {P : tw_S → Option tw_A → Prop} {g : tw_S} (hg : tw_up f 61 0 0 = g) (h0 : ¬ (g 61 38 = 0 ∧ k_quiet g 0 ∧ k_quiet g 1) → P g (some (tw_I 0))) (h1 : (g 61 38 = 0 ∧ k_quiet g 0 ∧ k_quiet g 1) → ¬ p_other (g 62) (g 63) (g 67 0) 5 = 0 → ¬ p_other (g 62) (g 63) (g 67 1) 5 = 0 → P g (some (tw_I 0))) (h2 : (g 61 38 = 0 ∧ k_quiet g 0 ∧ k_quiet g 1) → (p_other (g 62) (g 63) (g 67 0) 5 = 0 ∨ p_other (g 62) (g 63) (g 67 1) 5 = 0) → k_any g 32 → P g (some (tw_I 0))) (h3 : (g 61 38 = 0 ∧ k_quiet g 0 ∧ k_quiet g 1) → p_other (g 62) (g 63) (g 67 0) 5 = 0 → ¬ k_any g 32 → P (k_pr g 0) (some (tw_I 1))) (h4 : (g 61 38 = 0 ∧ k_quiet g 0 ∧ k_quiet g 1) → ¬ p_other (g 62) (g 63) (g 67 0) 5 = 0 → p_other (g 62) (g 63) (g 67 1) 5 = 0 → ¬ k_any g 32 → P (k_pr g 1) (some (tw_I 1))) : tS fl (d + 4) 145 [tw_R 61] f P := by
  refine tw_Sp_of rfl rfl (Nat.le_of_ble_eq_true rfl) (fun X h => ?_)
  -- the rows of one controller
  have bp : ∀ (w : Nat) (c : Nat), c < 2 → ∀ y : tw_S, (∀ l3 : Option tw_A, X 132 [some (tw_R 61), some (tw_I (nI w)), some (tw_I (nI (c + 1))), l3] [] tx_L0 (k_bp y c 32 8)) → ∀ l3 : Option tw_A, X 132 [some (tw_R 61), some (tw_I (nI w)), some (tw_I (nI c)), l3] [] tx_L0 y := by
    intro w c hc y nxt l3
    have loop2 : ∀ n i : Nat, i + n = 8 → X 177 [some (tw_R 61), some (tw_I (nI w)), some (tw_I (nI c)), some (tw_I (nI i))] [] tx_L0 (k_bp y c 32 i) := by
      intro n
      induction n with
      | zero =>
        intro i hi
        obtain rfl : i = 8 := by omega
        refine zi_iload_n h rfl rfl ?_
        refine zn_bipush h 8 rfl rfl ?_
        first | refine zn_icmpge h rfl (by omega) (by omega) (fun hc => ?_) (fun hc => ?_) | refine zc_icmpge h rfl (fun hc => ?_) (fun hc => ?_)
        · first | refine zn_iinc h 1 rfl rfl rfl ?_ | refine zi_iinc h rfl rfl ?_
          refine zi_goto h rfl ?_
          exact nxt _
        · omega
      | succ n ih =>
        intro i hi
        have ih := ih (i + 1) (by omega)
        unfold k_bp at ih ⊢
        refine zi_iload_n h rfl rfl ?_
        refine zn_bipush h 8 rfl rfl ?_
        first | refine zn_icmpge h rfl (by omega) (by omega) (fun hc => ?_) (fun hc => ?_) | refine zc_icmpge h rfl (fun hc => ?_) (fun hc => ?_)
        · omega
        · refine zi_aload_n h rfl rfl ?_
          refine zg_ref h rfl (by first | rfl | assumption) (by decide) rfl rfl ?_
          refine zn_bipush h 8 rfl rfl ?_
          refine zi_iload_n h rfl rfl ?_
          first | refine zn_imul h rfl ?_ | refine zi_imul h rfl ?_
          refine zi_iload_n h rfl rfl ?_
          first | refine zn_iadd h rfl ?_ | refine zi_iadd h rfl ?_
          refine zn_iconst h 0 rfl rfl ?_
          refine zs_z h rfl (by first | rfl | assumption) rfl (by omega) (by decide) (by first | exact Or.inl rfl | exact Or.inr rfl | exact tw_nz_01 _ | assumption) ?_
          first | refine zn_iinc h 1 rfl rfl rfl ?_ | refine zi_iinc h rfl rfl ?_
          show X 190 _ _ _ _
          refine zi_goto h rfl ?_
          refine tw_mem (fun q j => ?_) (ih)
          try simp only [tw_up, tw_n0, tw_n1, tw_n2, false_and, and_false, true_and, and_true, false_or, or_false, if_true, if_false]
          (repeat' split) <;> first | rfl | omega | exact tw_cgf (by omega) (by omega)
    have loop1 : ∀ n i : Nat, i + n = 32 → X 152 [some (tw_R 61), some (tw_I (nI w)), some (tw_I (nI c)), some (tw_I (nI i))] [] tx_L0 (k_bp y c i 0) := by
      intro n
      induction n with
      | zero =>
        intro i hi
        obtain rfl : i = 32 := by omega
        refine zi_iload_n h rfl rfl ?_
        refine zn_bipush h 32 rfl rfl ?_
        first | refine zn_icmpge h rfl (by omega) (by omega) (fun hc => ?_) (fun hc => ?_) | refine zc_icmpge h rfl (fun hc => ?_) (fun hc => ?_)
        · refine zn_iconst h 0 rfl rfl ?_
          refine zi_istore_n h rfl (Nat.le_of_ble_eq_true rfl) ?_
          exact loop2 8 0 (by omega)
        · omega
      | succ n ih =>
        intro i hi
        have ih := ih (i + 1) (by omega)
        unfold k_bp at ih ⊢
        refine zi_iload_n h rfl rfl ?_
        refine zn_bipush h 32 rfl rfl ?_
        first | refine zn_icmpge h rfl (by omega) (by omega) (fun hc => ?_) (fun hc => ?_) | refine zc_icmpge h rfl (fun hc => ?_) (fun hc => ?_)
        · omega
        · refine zi_aload_n h rfl rfl ?_
          refine zg_ref h rfl (by first | rfl | assumption) (by decide) rfl rfl ?_
          refine zn_bipush h 32 rfl rfl ?_
          refine zi_iload_n h rfl rfl ?_
          first | refine zn_imul h rfl ?_ | refine zi_imul h rfl ?_
          refine zi_iload_n h rfl rfl ?_
          first | refine zn_iadd h rfl ?_ | refine zi_iadd h rfl ?_
          refine zn_iconst h 0 rfl rfl ?_
          refine zs_z h rfl (by first | rfl | assumption) rfl (by omega) (by decide) (by first | exact Or.inl rfl | exact Or.inr rfl | exact tw_nz_01 _ | assumption) ?_
          refine zi_aload_n h rfl rfl ?_
          show X 165 _ _ _ _
          refine zg_ref h rfl (by first | rfl | assumption) (by decide) rfl rfl ?_
          refine zn_bipush h 32 rfl rfl ?_
          refine zi_iload_n h rfl rfl ?_
          first | refine zn_imul h rfl ?_ | refine zi_imul h rfl ?_
          refine zi_iload_n h rfl rfl ?_
          first | refine zn_iadd h rfl ?_ | refine zi_iadd h rfl ?_
          refine zn_iconst h 0 rfl rfl ?_
          refine zs_z h rfl (by first | rfl | assumption) rfl (by omega) (by decide) (by first | exact Or.inl rfl | exact Or.inr rfl | exact tw_nz_01 _ | assumption) ?_
          first | refine zn_iinc h 1 rfl rfl rfl ?_ | refine zi_iinc h rfl rfl ?_
          refine zi_goto h rfl ?_
          refine tw_mem (fun q j => ?_) (ih)
          try simp only [tw_up, tw_n0, tw_n1, tw_n2, false_and, and_false, true_and, and_true, false_or, or_false, if_true, if_false]
          (repeat' split) <;> first | rfl | omega | exact tw_cgf (by omega) (by omega)
    refine zi_iload_n h rfl rfl ?_
    refine zn_iconst h 2 rfl rfl ?_
    first | refine zn_icmpge h rfl (by omega) (by omega) (fun hc => ?_) (fun hc => ?_) | refine zc_icmpge h rfl (fun hc => ?_) (fun hc => ?_)
    · omega
    · refine zi_aload_n h rfl rfl ?_
      refine zg_ref h rfl (by first | rfl | assumption) (by decide) rfl rfl ?_
      refine zi_iload_n h rfl rfl ?_
      refine zn_iconst h 1 rfl rfl ?_
      refine zs_z h rfl (by first | rfl | assumption) rfl (by omega) (by decide) (by first | exact Or.inl rfl | exact Or.inr rfl | exact tw_nz_01 _ | assumption) ?_
      refine zi_aload_n h rfl rfl ?_
      refine zg_ref h rfl (by first | rfl | assumption) (by decide) rfl rfl ?_
      refine zi_iload_n h rfl rfl ?_
      refine zn_iconst h 0 rfl rfl ?_
      refine zs_i h rfl (by first | rfl | assumption) rfl (by omega) (by decide) ?_
      show X 145 _ _ _ _
      refine zi_aload_n h rfl rfl ?_
      refine zg_ref h rfl (by first | rfl | assumption) (by decide) rfl rfl ?_
      refine zi_iload_n h rfl rfl ?_
      refine zn_iconst h 0 rfl rfl ?_
      refine zs_i h rfl (by first | rfl | assumption) rfl (by omega) (by decide) ?_
      refine zn_iconst h 0 rfl rfl ?_
      refine zi_istore_n h rfl (Nat.le_of_ble_eq_true rfl) ?_
      have l0 := loop1 32 0 (by omega)
      unfold k_bp at l0
      refine tw_mem (fun q j => ?_) (l0)
      try simp only [tw_up, tw_n0, tw_n1, tw_n2, false_and, and_false, true_and, and_true, false_or, or_false, if_true, if_false]
      (repeat' split) <;> first | rfl | omega | exact tw_cgf (by omega) (by omega)
  have own : ∀ (w v : Nat), w < 2 → v < 2 → ∀ y : tw_S, X 75 [some (tw_R 61), some (tw_I (nI w)), some (tw_I (nI (v + 1))), none] [] tx_L0 (k_ow y w v) → X 75 [some (tw_R 61), some (tw_I (nI w)), some (tw_I (nI v)), none] [] tx_L0 y := by
    intro w v hw hv y nxt
    unfold k_ow at nxt
    have one1 : ∀ z : tw_S, ¬ (¬ z 69 v = 0 ∧ ¬ z 69 (2 + v) = 0) → X 75 [some (tw_R 61), some (tw_I (nI w)), some (tw_I (nI (v + 1))), none] [] tx_L0 z → X 95 [some (tw_R 61), some (tw_I (nI w)), some (tw_I (nI v)), none] [] tx_L0 z := by
      intro z hn nxt
      refine zi_aload_n h rfl rfl ?_
      refine zg_ref h rfl (by first | rfl | assumption) (by decide) rfl rfl ?_
      refine zi_iload_n h rfl rfl ?_
      refine za_z h rfl (by first | rfl | assumption) rfl (by omega) (by decide) ?_
      first | refine zb_ifeq h rfl (fun hc => ?_) (fun hc => ?_) | refine zc_ifeq h rfl (fun hc => ?_) (fun hc => ?_)
      · first | refine zn_iinc h 1 rfl rfl rfl ?_ | refine zi_iinc h rfl rfl ?_
        refine zi_goto h rfl ?_
        exact nxt
      · have c1 := hc
        refine zi_aload_n h rfl rfl ?_
        refine zg_ref h rfl (by first | rfl | assumption) (by decide) rfl rfl ?_
        refine zn_iconst h 2 rfl rfl ?_
        refine zi_iload_n h rfl rfl ?_
        first | refine zn_iadd h rfl ?_ | refine zi_iadd h rfl ?_
        refine za_z h rfl (by first | rfl | assumption) rfl (by omega) (by decide) ?_
        first | refine zb_ifeq h rfl (fun hc => ?_) (fun hc => ?_) | refine zc_ifeq h rfl (fun hc => ?_) (fun hc => ?_)
        · first | refine zn_iinc h 1 rfl rfl rfl ?_ | refine zi_iinc h rfl rfl ?_
          refine zi_goto h rfl ?_
          exact nxt
        · exact absurd ⟨c1, hc⟩ hn
    have two : ¬ (y 69 v = 0 ∧ y 69 (2 + v) = 0) → X 95 [some (tw_R 61), some (tw_I (nI w)), some (tw_I (nI v)), none] [] tx_L0 y := by
      intro hn
      rw [if_neg hn] at nxt
      by_cases hb : ¬ y 69 v = 0 ∧ ¬ y 69 (2 + v) = 0
      · rw [if_pos hb] at nxt
        refine zi_aload_n h rfl rfl ?_
        refine zg_ref h rfl (by first | rfl | assumption) (by decide) rfl rfl ?_
        refine zi_iload_n h rfl rfl ?_
        refine za_z h rfl (by first | rfl | assumption) rfl (by omega) (by decide) ?_
        first | refine zb_ifeq h rfl (fun hc => ?_) (fun hc => ?_) | refine zc_ifeq h rfl (fun hc => ?_) (fun hc => ?_)
        · exact absurd hc hb.1
        · refine zi_aload_n h rfl rfl ?_
          refine zg_ref h rfl (by first | rfl | assumption) (by decide) rfl rfl ?_
          refine zn_iconst h 2 rfl rfl ?_
          refine zi_iload_n h rfl rfl ?_
          first | refine zn_iadd h rfl ?_ | refine zi_iadd h rfl ?_
          refine za_z h rfl (by first | rfl | assumption) rfl (by omega) (by decide) ?_
          first | refine zb_ifeq h rfl (fun hc => ?_) (fun hc => ?_) | refine zc_ifeq h rfl (fun hc => ?_) (fun hc => ?_)
          · exact absurd hc hb.2
          · refine zi_aload_n h rfl rfl ?_
            refine zg_ref h rfl (by first | rfl | assumption) (by decide) rfl rfl ?_
            refine zn_iconst h 2 rfl rfl ?_
            refine zn_iconst h 1 rfl rfl ?_
            refine zi_iload_n h rfl rfl ?_
            first | refine zn_isub h rfl (by omega) ?_ | refine zi_isub h rfl ?_
            first | refine zn_imul h rfl ?_ | refine zi_imul h rfl ?_
            refine zi_iload_n h rfl rfl ?_
            first | refine zn_iadd h rfl ?_ | refine zi_iadd h rfl ?_
            refine zn_iconst h 0 rfl rfl ?_
            show X 117 _ _ _ _
            refine zs_z h rfl (by first | rfl | assumption) rfl (by omega) (by decide) (by first | exact Or.inl rfl | exact Or.inr rfl | exact tw_nz_01 _ | assumption) ?_
            first | refine zn_iinc h 1 rfl rfl rfl ?_ | refine zi_iinc h rfl rfl ?_
            refine zi_goto h rfl ?_
            exact nxt
      · rw [if_neg hb] at nxt
        exact one1 y hb nxt
    refine zi_iload_n h rfl rfl ?_
    refine zn_iconst h 2 rfl rfl ?_
    first | refine zn_icmpge h rfl (by omega) (by omega) (fun hc => ?_) (fun hc => ?_) | refine zc_icmpge h rfl (fun hc => ?_) (fun hc => ?_)
    · omega
    · refine zi_aload_n h rfl rfl ?_
      refine zg_ref h rfl (by first | rfl | assumption) (by decide) rfl rfl ?_
      refine zi_iload_n h rfl rfl ?_
      refine za_z h rfl (by first | rfl | assumption) rfl (by omega) (by decide) ?_
      first | refine zb_ifne h rfl (fun hc => ?_) (fun hc => ?_) | refine zc_ifne h rfl (fun hc => ?_) (fun hc => ?_)
      · exact two (fun u => hc u.1)
      · have c1 := hc
        refine zi_aload_n h rfl rfl ?_
        refine zg_ref h rfl (by first | rfl | assumption) (by decide) rfl rfl ?_
        refine zn_iconst h 2 rfl rfl ?_
        refine zi_iload_n h rfl rfl ?_
        first | refine zn_iadd h rfl ?_ | refine zi_iadd h rfl ?_
        refine za_z h rfl (by first | rfl | assumption) rfl (by omega) (by decide) ?_
        first | refine zb_ifne h rfl (fun hc => ?_) (fun hc => ?_) | refine zc_ifne h rfl (fun hc => ?_) (fun hc => ?_)
        · exact two (fun u => hc u.2)
        · rw [if_pos ⟨c1, hc⟩] at nxt
          have e2 : tw_up y 69 v 1 69 (2 + v) = y 69 (2 + v) := tw_off (by omega)
          have c2 := hc
          refine zi_aload_n h rfl rfl ?_
          refine zg_ref h rfl (by first | rfl | assumption) (by decide) rfl rfl ?_
          refine zi_iload_n h rfl rfl ?_
          refine zn_iconst h 1 rfl rfl ?_
          refine zs_z h rfl (by first | rfl | assumption) rfl (by omega) (by decide) (by first | exact Or.inl rfl | exact Or.inr rfl | exact tw_nz_01 _ | assumption) ?_
          exact one1 (tw_up y 69 v 1) (fun u => u.2 (by rw [e2]; exact c2)) nxt
  have rest : ∀ w : Nat, w < 2 → (k_any g 32 → P g (some (tw_I 0))) → (¬ k_any g 32 → P (k_pr g w) (some (tw_I 1))) → X 36 [some (tw_R 61), some (tw_I (nI w)), none, none] [] tx_L0 g := by
    intro w hw ka kb
    have body : ¬ k_any g 32 → X 73 [some (tw_R 61), some (tw_I (nI w)), some (tw_I (nI 32)), none] [] tx_L0 g := by
      intro hn
      have kb := kb hn
      have fin : ∀ l3 : Option tw_A, X 132 [some (tw_R 61), some (tw_I (nI w)), some (tw_I (nI 2)), l3] [] tx_L0 (k_pr g w) := by
        intro l3
        refine zi_iload_n h rfl rfl ?_
        refine zn_iconst h 2 rfl rfl ?_
        first | refine zn_icmpge h rfl (by omega) (by omega) (fun hc => ?_) (fun hc => ?_) | refine zc_icmpge h rfl (fun hc => ?_) (fun hc => ?_)
        · refine zn_iconst h 1 rfl rfl ?_
          refine zi_zret h rfl (by first | exact Or.inl rfl | exact Or.inr rfl | exact tw_nz_01 _ | assumption) ?_
          exact kb
        · omega
      have key : X 120 [some (tw_R 61), some (tw_I (nI w)), some (tw_I (nI 2)), none] [] tx_L0 (k_ow (k_ow g w 0) w 1) := by
        have e67 : k_ow (k_ow g w 0) w 1 67 w = g 67 w := by rw [k_ow_off (by omega), k_ow_off (by omega)]
        refine zi_aload_n h rfl rfl ?_
        refine zg_ref h rfl (by first | rfl | assumption) (by decide) rfl rfl ?_
        refine zn_iconst h 1 rfl rfl ?_
        refine zi_iload_n h rfl rfl ?_
        first | refine zn_isub h rfl (by omega) ?_ | refine zi_isub h rfl ?_
        refine zi_aload_n h rfl rfl ?_
        refine zg_ref h rfl (by first | rfl | assumption) (by decide) rfl rfl ?_
        refine zi_iload_n h rfl rfl ?_
        refine za_i h rfl (by first | rfl | assumption) rfl (by omega) (by decide) ?_
        rw [e67]
        refine zs_i h rfl (by first | rfl | assumption) rfl (by omega) (by decide) ?_
        refine zn_iconst h 0 rfl rfl ?_
        refine zi_istore_n h rfl (Nat.le_of_ble_eq_true rfl) ?_
        exact bp w 0 (by omega) _ (bp w 1 (by omega) _ fin) _
      refine zn_iconst h 0 rfl rfl ?_
      refine zi_istore_n h rfl (Nat.le_of_ble_eq_true rfl) ?_
      refine own w 0 hw (by omega) g (own w 1 hw (by omega) _ ?_)
      refine zi_iload_n h rfl rfl ?_
      refine zn_iconst h 2 rfl rfl ?_
      first | refine zn_icmpge h rfl (by omega) (by omega) (fun hc => ?_) (fun hc => ?_) | refine zc_icmpge h rfl (fun hc => ?_) (fun hc => ?_)
      · exact key
      · omega
    have loop : ∀ n i : Nat, i + n = 32 → ¬ k_any g i → X 38 [some (tw_R 61), some (tw_I (nI w)), some (tw_I (nI i)), none] [] tx_L0 g := by
      intro n
      induction n with
      | zero =>
        intro i hi hn
        obtain rfl : i = 32 := by omega
        refine zi_iload_n h rfl rfl ?_
        refine zn_bipush h 32 rfl rfl ?_
        first | refine zn_icmpge h rfl (by omega) (by omega) (fun hc => ?_) (fun hc => ?_) | refine zc_icmpge h rfl (fun hc => ?_) (fun hc => ?_)
        · exact body hn
        · omega
      | succ n ih =>
        intro i hi hn
        have skip : ¬ (g 69 (i / 16) = 0 ∧ g 69 (2 + i / 16) = 0 ∧ (¬ g 74 i = 0 ∨ ¬ g 74 (32 + i) = 0)) → X 71 [some (tw_R 61), some (tw_I (nI w)), some (tw_I (nI i)), none] [] tx_L0 g := by
          intro hs
          have ih := ih (i + 1) (by omega) (fun ⟨b, b1, b2⟩ => by
            by_cases hb : b < i
            · exact hn ⟨b, hb, b2⟩
            · obtain rfl : b = i := by omega
              exact hs b2)
          first | refine zn_iinc h 1 rfl rfl rfl ?_ | refine zi_iinc h rfl rfl ?_
          refine zi_goto h rfl ?_
          exact ih
        refine zi_iload_n h rfl rfl ?_
        refine zn_bipush h 32 rfl rfl ?_
        first | refine zn_icmpge h rfl (by omega) (by omega) (fun hc => ?_) (fun hc => ?_) | refine zc_icmpge h rfl (fun hc => ?_) (fun hc => ?_)
        · omega
        · refine zi_aload_n h rfl rfl ?_
          refine zg_ref h rfl (by first | rfl | assumption) (by decide) rfl rfl ?_
          refine zi_iload_n h rfl rfl ?_
          refine zn_bipush h 16 rfl rfl ?_
          refine zn_idiv h rfl (by omega) (by omega) (by omega) ?_
          refine za_z h rfl (by first | rfl | assumption) rfl (by omega) (by decide) ?_
          first | refine zb_ifne h rfl (fun hc => ?_) (fun hc => ?_) | refine zc_ifne h rfl (fun hc => ?_) (fun hc => ?_)
          · exact skip (fun u => hc u.1)
          · have c1 := hc
            refine zi_aload_n h rfl rfl ?_
            refine zg_ref h rfl (by first | rfl | assumption) (by decide) rfl rfl ?_
            refine zn_iconst h 2 rfl rfl ?_
            refine zi_iload_n h rfl rfl ?_
            refine zn_bipush h 16 rfl rfl ?_
            refine zn_idiv h rfl (by omega) (by omega) (by omega) ?_
            first | refine zn_iadd h rfl ?_ | refine zi_iadd h rfl ?_
            refine za_z h rfl (by first | rfl | assumption) rfl (by omega) (by decide) ?_
            first | refine zb_ifne h rfl (fun hc => ?_) (fun hc => ?_) | refine zc_ifne h rfl (fun hc => ?_) (fun hc => ?_)
            · exact skip (fun u => hc u.2.1)
            · have c2 := hc
              refine zi_aload_n h rfl rfl ?_
              refine zg_ref h rfl (by first | rfl | assumption) (by decide) rfl rfl ?_
              refine zi_iload_n h rfl rfl ?_
              refine za_z h rfl (by first | rfl | assumption) rfl (by omega) (by decide) ?_
              first | refine zb_ifne h rfl (fun hc => ?_) (fun hc => ?_) | refine zc_ifne h rfl (fun hc => ?_) (fun hc => ?_)
              · refine zn_iconst h 0 rfl rfl ?_
                refine zi_zret h rfl (by first | exact Or.inl rfl | exact Or.inr rfl | exact tw_nz_01 _ | assumption) ?_
                exact ka ⟨i, by omega, c1, c2, Or.inl hc⟩
              · have c3 := hc
                refine zi_aload_n h rfl rfl ?_
                refine zg_ref h rfl (by first | rfl | assumption) (by decide) rfl rfl ?_
                refine zn_bipush h 32 rfl rfl ?_
                refine zi_iload_n h rfl rfl ?_
                first | refine zn_iadd h rfl ?_ | refine zi_iadd h rfl ?_
                refine za_z h rfl (by first | rfl | assumption) rfl (by omega) (by decide) ?_
                first | refine zb_ifeq h rfl (fun hc => ?_) (fun hc => ?_) | refine zc_ifeq h rfl (fun hc => ?_) (fun hc => ?_)
                · exact skip (fun u => u.2.2.elim (fun v => v c3) (fun v => v hc))
                · refine zn_iconst h 0 rfl rfl ?_
                  refine zi_zret h rfl (by first | exact Or.inl rfl | exact Or.inr rfl | exact tw_nz_01 _ | assumption) ?_
                  exact ka ⟨i, by omega, c1, c2, Or.inr hc⟩
    refine zn_iconst h 0 rfl rfl ?_
    refine zi_istore_n h rfl (Nat.le_of_ble_eq_true rfl) ?_
    exact loop 32 0 (by omega) (fun ⟨b, b1, _⟩ => by omega)
  have no : ¬ (g 61 38 = 0 ∧ k_quiet g 0 ∧ k_quiet g 1) → X 14 [some (tw_R 61), none, none, none] [] tx_L0 g := by
    intro hn
    refine zn_iconst h 0 rfl rfl ?_
    refine zi_zret h rfl (by first | exact Or.inl rfl | exact Or.inr rfl | exact tw_nz_01 _ | assumption) ?_
    exact h0 hn
  refine zi_aload_n h rfl rfl ?_
  refine zn_iconst h 0 rfl rfl ?_
  refine zp_int h rfl (by first | rfl | assumption) (by decide) rfl ?_
  refine tw_mem (g := g) (fun q j => by rw [← hg]; rfl) ?_
  refine zi_aload_n h rfl rfl ?_
  refine zn_iconst h 0 rfl rfl ?_
  refine zk_V h [_] rfl (by first | rfl | assumption) rfl rfl (Nat.le_of_ble_eq_true rfl) (s_k_quiet (by omega) (fun q0 => ?_) (fun q0 => ?_))
  · first | refine zb_ifeq h rfl (fun hc => ?_) (fun hc => ?_) | refine zc_ifeq h rfl (fun hc => ?_) (fun hc => ?_)
    · exact absurd hc (by decide)
    · refine zi_aload_n h rfl rfl ?_
      refine zn_iconst h 1 rfl rfl ?_
      refine zk_V h [_] rfl (by first | rfl | assumption) rfl rfl (Nat.le_of_ble_eq_true rfl) (s_k_quiet (by omega) (fun q1 => ?_) (fun q1 => ?_))
      · first | refine zb_ifeq h rfl (fun hc => ?_) (fun hc => ?_) | refine zc_ifeq h rfl (fun hc => ?_) (fun hc => ?_)
        · exact absurd hc (by decide)
        · refine zi_aload_n h rfl rfl ?_
          refine zg_boo h rfl (by first | rfl | assumption) (by decide) rfl ?_
          first | refine zb_ifeq h rfl (fun hc => ?_) (fun hc => ?_) | refine zc_ifeq h rfl (fun hc => ?_) (fun hc => ?_)
          · have all := And.intro hc (And.intro q0 q1)
            refine zn_iconst h 0 rfl rfl ?_
            refine zi_istore_n h rfl (Nat.le_of_ble_eq_true rfl) ?_
            refine zi_aload_n h rfl rfl ?_
            refine zi_aload_n h rfl rfl ?_
            refine zg_ref h rfl (by first | rfl | assumption) (by decide) rfl rfl ?_
            refine zn_iconst h 0 rfl rfl ?_
            refine za_i h rfl (by first | rfl | assumption) rfl (by omega) (by decide) ?_
            refine zk_V h [_] rfl (by first | rfl | assumption) rfl rfl (Nat.le_of_ble_eq_true rfl) (s_k_ofAll (fun o0 => ?_) (fun o0 => ?_))
            · first | refine zb_ifne h rfl (fun hc => ?_) (fun hc => ?_) | refine zc_ifne h rfl (fun hc => ?_) (fun hc => ?_)
              · refine zi_aload_n h rfl rfl ?_
                refine zi_aload_n h rfl rfl ?_
                refine zg_ref h rfl (by first | rfl | assumption) (by decide) rfl rfl ?_
                refine zi_iload_n h rfl rfl ?_
                refine za_i h rfl (by first | rfl | assumption) rfl (by omega) (by decide) ?_
                refine zk_V h [_] rfl (by first | rfl | assumption) rfl rfl (Nat.le_of_ble_eq_true rfl) (s_k_ofAll (fun o1 => ?_) (fun o1 => ?_))
                · first | refine zb_ifne h rfl (fun hc => ?_) (fun hc => ?_) | refine zc_ifne h rfl (fun hc => ?_) (fun hc => ?_)
                  · exact rest 0 (by omega) (h2 all (Or.inl o0)) (h3 all o0)
                  · exact absurd hc (by decide)
                · exact absurd o0 o1
              · exact absurd hc (by decide)
            · first | refine zb_ifne h rfl (fun hc => ?_) (fun hc => ?_) | refine zc_ifne h rfl (fun hc => ?_) (fun hc => ?_)
              · exact absurd rfl hc
              · refine zn_iconst h 1 rfl rfl ?_
                refine zi_istore_n h rfl (Nat.le_of_ble_eq_true rfl) ?_
                refine zi_aload_n h rfl rfl ?_
                refine zi_aload_n h rfl rfl ?_
                refine zg_ref h rfl (by first | rfl | assumption) (by decide) rfl rfl ?_
                refine zi_iload_n h rfl rfl ?_
                refine za_i h rfl (by first | rfl | assumption) rfl (by omega) (by decide) ?_
                refine zk_V h [_] rfl (by first | rfl | assumption) rfl rfl (Nat.le_of_ble_eq_true rfl) (s_k_ofAll (fun o1 => ?_) (fun o1 => ?_))
                · first | refine zb_ifne h rfl (fun hc => ?_) (fun hc => ?_) | refine zc_ifne h rfl (fun hc => ?_) (fun hc => ?_)
                  · exact rest 1 (by omega) (h2 all (Or.inr o1)) (h4 all o0 o1)
                  · exact absurd hc (by decide)
                · first | refine zb_ifne h rfl (fun hc => ?_) (fun hc => ?_) | refine zc_ifne h rfl (fun hc => ?_) (fun hc => ?_)
                  · exact absurd rfl hc
                  · refine zn_iconst h 0 rfl rfl ?_
                    refine zi_zret h rfl (by first | exact Or.inl rfl | exact Or.inr rfl | exact tw_nz_01 _ | assumption) ?_
                    exact h1 all o0 o1
          · exact no (fun u => hc u.1)
      · first | refine zb_ifeq h rfl (fun hc => ?_) (fun hc => ?_) | refine zc_ifeq h rfl (fun hc => ?_) (fun hc => ?_)
        · exact no (fun u => q1 u.2.2)
        · exact absurd rfl hc
  · first | refine zb_ifeq h rfl (fun hc => ?_) (fun hc => ?_) | refine zc_ifeq h rfl (fun hc => ?_) (fun hc => ?_)
    · exact no (fun u => q0 u.2.1)
    · exact absurd rfl hc
def k_busy (f : tw_S) (c u n : Nat) : Prop := ∃ i, 16 * u ≤ i ∧ i < n ∧ (¬ f 73 (32 * c + i) = 0 ∨ ¬ f 77 (8 * c + i / 4) = 0)
def k_busy2 (f : tw_S) (c u : Nat) : Prop := ∃ s, s < 8 ∧ f 87 c = nI s ∧ s / 4 = u
def k_mv0 (f : tw_S) (c u n : Nat) : tw_S := fun q j => if q = 70 ∧ 32 * c + 16 * u ≤ j ∧ j < 32 * c + n then 0 else if q = 74 ∧ 32 * (1 - c) + 16 * u ≤ j ∧ j < 32 * (1 - c) + n then 0 else f q j
def k_move (f : tw_S) (c u : Nat) : tw_S := tw_up (tw_up (k_mv0 f c u (16 * u + 16)) 69 (2 * c + u) 0) 69 (2 * (1 - c) + u) 1
set_option maxRecDepth 20000 in
theorem s_m_moveOwner_x {fl : Bool} {d : Nat} {f : tw_S} {P : tw_S → Option tw_A → Prop} {x : Int32} {g : tw_S} (hg : tw_up f 61 0 0 = g) (hx : x < 0 ∨ nI 2 ≤ x) (hP : P g (some (tw_I 0))) : tS fl (d + 2) 148 [tw_R 61, tw_I x] f P := by
  subst hg
  refine tw_Sp_of rfl rfl (Nat.le_of_ble_eq_true rfl) (fun X h => ?_)
  refine zi_aload_n h rfl rfl ?_
  refine zn_iconst h 0 rfl rfl ?_
  refine zp_int h rfl (by first | rfl | assumption) (by decide) rfl ?_
  refine zi_iload_n h rfl rfl ?_
  refine zn_iconst h 0 rfl rfl ?_
  refine zn_iconst h 1 rfl rfl ?_
  refine zk_S h [_, _, _] rfl rfl rfl (Nat.le_of_ble_eq_true rfl) (s_k_in0 (by omega) hx ?_)
  first | refine zb_ifeq h rfl (fun hc => ?_) (fun hc => ?_) | refine zc_ifeq h rfl (fun hc => ?_) (fun hc => ?_)
  · refine zn_iconst h 0 rfl rfl ?_
    refine zi_zret h rfl (by first | exact Or.inl rfl | exact Or.inr rfl | exact tw_nz_01 _ | assumption) ?_
    exact hP
  · exact absurd rfl hc
set_option maxRecDepth 20000 in
theorem s_m_moveOwner_u {fl : Bool} {d : Nat} {f : tw_S} {P : tw_S → Option tw_A → Prop} {u m0 m1 : Nat} {g : tw_S} (hg : tw_up f 61 0 0 = g) (hu : u < 2) (hm0 : g 98 0 = nI m0) (hm0b : m0 ≤ 40) (hm1 : g 98 1 = nI m1) (hm1b : m1 ≤ 40) (hst : ∀ c, c < 2 → g 87 c = -1 ∨ ∃ s, s < 8 ∧ g 87 c = nI s) (h0 : ¬ (¬ g 66 0 = 0 ∧ ¬ g 66 1 = 0 ∧ ¬ g 68 0 = 0 ∧ ¬ g 68 1 = 0) → P g (some (tw_I 0))) (h1 : (¬ g 66 0 = 0 ∧ ¬ g 66 1 = 0 ∧ ¬ g 68 0 = 0 ∧ ¬ g 68 1 = 0) → (g 69 u = 0 ↔ g 69 (2 + u) = 0) → P g (some (tw_I 0))) (h2 : (¬ g 66 0 = 0 ∧ ¬ g 66 1 = 0 ∧ ¬ g 68 0 = 0 ∧ ¬ g 68 1 = 0) → ¬ (g 69 u = 0 ↔ g 69 (2 + u) = 0) → ¬ (m0 = 0 ∧ m1 = 0) → P g (some (tw_I 0)))
    (h3 : (¬ g 66 0 = 0 ∧ ¬ g 66 1 = 0 ∧ ¬ g 68 0 = 0 ∧ ¬ g 68 1 = 0) → (m0 = 0 ∧ m1 = 0) → ¬ (g 69 u = 0 ↔ g 69 (2 + u) = 0) → ∀ c, (g 69 (2 + u) = 0 ∧ c = 0) ∨ (¬ g 69 (2 + u) = 0 ∧ c = 1) → (k_busy g c u (16 * u + 16) ∨ k_busy2 g c u → P g (some (tw_I 0))) ∧ (¬ (k_busy g c u (16 * u + 16) ∨ k_busy2 g c u) → P (k_move g c u) (some (tw_I 1)))) : tS fl (d + 2) 148 [tw_R 61, tw_I (nI u)] f P := by
  refine tw_Sp_of rfl rfl (Nat.le_of_ble_eq_true rfl) (fun X h => ?_)
  have no : ¬ (¬ g 66 0 = 0 ∧ ¬ g 66 1 = 0 ∧ ¬ g 68 0 = 0 ∧ ¬ g 68 1 = 0) → X 49 [some (tw_R 61), some (tw_I (nI u)), none, none] [] tx_L0 g := by
    intro hn
    refine zn_iconst h 0 rfl rfl ?_
    refine zi_zret h rfl (by first | exact Or.inl rfl | exact Or.inr rfl | exact tw_nz_01 _ | assumption) ?_
    exact h0 hn
  have rest : ∀ c : Nat, c < 2 → (k_busy g c u (16 * u + 16) ∨ k_busy2 g c u → P g (some (tw_I 0))) → (¬ (k_busy g c u (16 * u + 16) ∨ k_busy2 g c u) → P (k_move g c u) (some (tw_I 1))) → X 62 [some (tw_R 61), some (tw_I (nI u)), some (tw_I (nI c)), none] [] tx_L0 g := by
    intro c hc ka kb
    have hcc := hc
    have move : ¬ (k_busy g c u (16 * u + 16) ∨ k_busy2 g c u) → ∀ l3 : Option tw_A, X 112 [some (tw_R 61), some (tw_I (nI u)), some (tw_I (nI c)), l3] [] tx_L0 g := by
      intro hn l3
      have kb := kb hn
      have loop : ∀ n i : Nat, i + n = 16 * u + 16 → 16 * u ≤ i → X 116 [some (tw_R 61), some (tw_I (nI u)), some (tw_I (nI c)), some (tw_I (nI i))] [] tx_L0 (k_mv0 g c u i) := by
        intro n
        induction n with
        | zero =>
          intro i hi h16
          obtain rfl : i = 16 * u + 16 := by omega
          unfold k_move at kb
          generalize k_mv0 g c u (16 * u + 16) = y at kb ⊢
          refine zi_iload_n h rfl rfl ?_
          refine zn_bipush h 16 rfl rfl ?_
          refine zi_iload_n h rfl rfl ?_
          first | refine zn_imul h rfl ?_ | refine zi_imul h rfl ?_
          refine zn_bipush h 16 rfl rfl ?_
          first | refine zn_iadd h rfl ?_ | refine zi_iadd h rfl ?_
          first | refine zn_icmpge h rfl (by omega) (by omega) (fun hc => ?_) (fun hc => ?_) | refine zc_icmpge h rfl (fun hc => ?_) (fun hc => ?_)
          · refine zi_aload_n h rfl rfl ?_
            refine zg_ref h rfl (by first | rfl | assumption) (by decide) rfl rfl ?_
            refine zn_iconst h 2 rfl rfl ?_
            refine zi_iload_n h rfl rfl ?_
            first | refine zn_imul h rfl ?_ | refine zi_imul h rfl ?_
            refine zi_iload_n h rfl rfl ?_
            first | refine zn_iadd h rfl ?_ | refine zi_iadd h rfl ?_
            refine zn_iconst h 0 rfl rfl ?_
            refine zs_z h rfl (by first | rfl | assumption) rfl (by omega) (by decide) (by first | exact Or.inl rfl | exact Or.inr rfl | exact tw_nz_01 _ | assumption) ?_
            refine zi_aload_n h rfl rfl ?_
            show X 155 _ _ _ _
            refine zg_ref h rfl (by first | rfl | assumption) (by decide) rfl rfl ?_
            refine zn_iconst h 2 rfl rfl ?_
            refine zn_iconst h 1 rfl rfl ?_
            refine zi_iload_n h rfl rfl ?_
            first | refine zn_isub h rfl (by omega) ?_ | refine zi_isub h rfl ?_
            first | refine zn_imul h rfl ?_ | refine zi_imul h rfl ?_
            refine zi_iload_n h rfl rfl ?_
            first | refine zn_iadd h rfl ?_ | refine zi_iadd h rfl ?_
            refine zn_iconst h 1 rfl rfl ?_
            refine zs_z h rfl (by first | rfl | assumption) rfl (by omega) (by decide) (by first | exact Or.inl rfl | exact Or.inr rfl | exact tw_nz_01 _ | assumption) ?_
            show X 165 _ _ _ _
            refine zn_iconst h 1 rfl rfl ?_
            refine zi_zret h rfl (by first | exact Or.inl rfl | exact Or.inr rfl | exact tw_nz_01 _ | assumption) ?_
            exact kb
          · omega
        | succ n ih =>
          intro i hi h16
          have ih := ih (i + 1) (by omega) (by omega)
          unfold k_mv0 at ih ⊢
          refine zi_iload_n h rfl rfl ?_
          refine zn_bipush h 16 rfl rfl ?_
          refine zi_iload_n h rfl rfl ?_
          first | refine zn_imul h rfl ?_ | refine zi_imul h rfl ?_
          refine zn_bipush h 16 rfl rfl ?_
          first | refine zn_iadd h rfl ?_ | refine zi_iadd h rfl ?_
          first | refine zn_icmpge h rfl (by omega) (by omega) (fun hc => ?_) (fun hc => ?_) | refine zc_icmpge h rfl (fun hc => ?_) (fun hc => ?_)
          · omega
          · refine zi_aload_n h rfl rfl ?_
            refine zg_ref h rfl (by first | rfl | assumption) (by decide) rfl rfl ?_
            refine zn_bipush h 32 rfl rfl ?_
            refine zi_iload_n h rfl rfl ?_
            first | refine zn_imul h rfl ?_ | refine zi_imul h rfl ?_
            refine zi_iload_n h rfl rfl ?_
            first | refine zn_iadd h rfl ?_ | refine zi_iadd h rfl ?_
            refine zn_iconst h 0 rfl rfl ?_
            refine zs_z h rfl (by first | rfl | assumption) rfl (by omega) (by decide) (by first | exact Or.inl rfl | exact Or.inr rfl | exact tw_nz_01 _ | assumption) ?_
            refine zi_aload_n h rfl rfl ?_
            show X 133 _ _ _ _
            refine zg_ref h rfl (by first | rfl | assumption) (by decide) rfl rfl ?_
            refine zn_bipush h 32 rfl rfl ?_
            refine zn_iconst h 1 rfl rfl ?_
            refine zi_iload_n h rfl rfl ?_
            first | refine zn_isub h rfl (by omega) ?_ | refine zi_isub h rfl ?_
            first | refine zn_imul h rfl ?_ | refine zi_imul h rfl ?_
            refine zi_iload_n h rfl rfl ?_
            first | refine zn_iadd h rfl ?_ | refine zi_iadd h rfl ?_
            refine zn_iconst h 0 rfl rfl ?_
            refine zs_z h rfl (by first | rfl | assumption) rfl (by omega) (by decide) (by first | exact Or.inl rfl | exact Or.inr rfl | exact tw_nz_01 _ | assumption) ?_
            show X 143 _ _ _ _
            first | refine zn_iinc h 1 rfl rfl rfl ?_ | refine zi_iinc h rfl rfl ?_
            refine zi_goto h rfl ?_
            refine tw_mem (fun q j => ?_) (ih)
            try simp only [tw_up, tw_n0, tw_n1, tw_n2, false_and, and_false, true_and, and_true, false_or, or_false, if_true, if_false]
            (repeat' split) <;> first | rfl | omega | exact tw_cgf (by omega) (by omega)
      refine zn_bipush h 16 rfl rfl ?_
      refine zi_iload_n h rfl rfl ?_
      first | refine zn_imul h rfl ?_ | refine zi_imul h rfl ?_
      refine zi_istore_n h rfl (Nat.le_of_ble_eq_true rfl) ?_
      refine tw_mem (fun q j => ?_) (loop 16 (16 * u) (by omega) (by omega))
      rw [k_mv0, if_neg (by omega), if_neg (by omega)]
    have stripe : ¬ k_busy g c u (16 * u + 16) → ∀ l3 : Option tw_A, X 97 [some (tw_R 61), some (tw_I (nI u)), some (tw_I (nI c)), l3] [] tx_L0 g := by
      intro hn l3
      rcases hst c hc with hs | ⟨s, hs, he⟩
      · refine zi_aload_n h rfl rfl ?_
        refine zg_ref h rfl (by first | rfl | assumption) (by decide) rfl rfl ?_
        refine zi_iload_n h rfl rfl ?_
        refine za_i h rfl (by first | rfl | assumption) rfl (by omega) (by decide) ?_
        rw [hs]
        refine zc_iflt h rfl (fun hc => ?_) (fun hc => ?_)
        · refine move (fun w => w.elim hn (fun ⟨s, s1, s2, s3⟩ => ?_)) _
          rw [hs] at s2
          exact absurd (nI_ge0 (n := s) (by omega)) (by rw [← s2]; decide)
        · exact absurd (show (-1 : Int32) < 0 by decide) hc
      · refine zi_aload_n h rfl rfl ?_
        refine zg_ref h rfl (by first | rfl | assumption) (by decide) rfl rfl ?_
        refine zi_iload_n h rfl rfl ?_
        refine za_n h s rfl (by first | rfl | assumption) rfl (by omega) (by decide) he ?_
        refine zc_iflt h rfl (fun hc => ?_) (fun hc => ?_)
        · exact absurd (nI_ge0 (n := s) (by omega)) (Int32.not_le.mpr hc)
        · refine zi_aload_n h rfl rfl ?_
          refine zg_ref h rfl (by first | rfl | assumption) (by decide) rfl rfl ?_
          refine zi_iload_n h rfl rfl ?_
          refine za_n h s rfl (by first | rfl | assumption) rfl (by omega) (by decide) he ?_
          refine zn_iconst h 4 rfl rfl ?_
          refine zn_idiv h rfl (by omega) (by omega) (by omega) ?_
          refine zi_iload_n h rfl rfl ?_
          first | refine zn_icmpne h rfl (by omega) (by omega) (fun hc => ?_) (fun hc => ?_) | refine zc_icmpne h rfl (fun hc => ?_) (fun hc => ?_)
          · refine move (fun w => w.elim hn (fun ⟨s2, s1, s3, s4⟩ => ?_)) _
            rw [he] at s3
            have := (nI_eq (by omega) (by omega)).mp s3
            subst this
            exact hc s4
          · refine zn_iconst h 0 rfl rfl ?_
            refine zi_zret h rfl (by first | exact Or.inl rfl | exact Or.inr rfl | exact tw_nz_01 _ | assumption) ?_
            exact ka (Or.inr ⟨s, hs, he, hc⟩)
    have loop : ∀ n i : Nat, i + n = 16 * u + 16 → 16 * u ≤ i → ¬ k_busy g c u i → X 66 [some (tw_R 61), some (tw_I (nI u)), some (tw_I (nI c)), some (tw_I (nI i))] [] tx_L0 g := by
      intro n
      induction n with
      | zero =>
        intro i hi h16 hn
        obtain rfl : i = 16 * u + 16 := by omega
        refine zi_iload_n h rfl rfl ?_
        refine zn_bipush h 16 rfl rfl ?_
        refine zi_iload_n h rfl rfl ?_
        first | refine zn_imul h rfl ?_ | refine zi_imul h rfl ?_
        refine zn_bipush h 16 rfl rfl ?_
        first | refine zn_iadd h rfl ?_ | refine zi_iadd h rfl ?_
        first | refine zn_icmpge h rfl (by omega) (by omega) (fun hc => ?_) (fun hc => ?_) | refine zc_icmpge h rfl (fun hc => ?_) (fun hc => ?_)
        · exact stripe hn _
        · omega
      | succ n ih =>
        intro i hi h16 hn
        refine zi_iload_n h rfl rfl ?_
        refine zn_bipush h 16 rfl rfl ?_
        refine zi_iload_n h rfl rfl ?_
        first | refine zn_imul h rfl ?_ | refine zi_imul h rfl ?_
        refine zn_bipush h 16 rfl rfl ?_
        first | refine zn_iadd h rfl ?_ | refine zi_iadd h rfl ?_
        first | refine zn_icmpge h rfl (by omega) (by omega) (fun hc => ?_) (fun hc => ?_) | refine zc_icmpge h rfl (fun hc => ?_) (fun hc => ?_)
        · omega
        · refine zi_aload_n h rfl rfl ?_
          refine zg_ref h rfl (by first | rfl | assumption) (by decide) rfl rfl ?_
          refine zn_bipush h 32 rfl rfl ?_
          refine zi_iload_n h rfl rfl ?_
          first | refine zn_imul h rfl ?_ | refine zi_imul h rfl ?_
          refine zi_iload_n h rfl rfl ?_
          first | refine zn_iadd h rfl ?_ | refine zi_iadd h rfl ?_
          refine za_z h rfl (by first | rfl | assumption) rfl (by omega) (by decide) ?_
          first | refine zb_ifne h rfl (fun hc => ?_) (fun hc => ?_) | refine zc_ifne h rfl (fun hc => ?_) (fun hc => ?_)
          · refine zn_iconst h 0 rfl rfl ?_
            refine zi_zret h rfl (by first | exact Or.inl rfl | exact Or.inr rfl | exact tw_nz_01 _ | assumption) ?_
            exact ka (Or.inl ⟨i, h16, by omega, Or.inl hc⟩)
          · have c1 := hc
            refine zi_aload_n h rfl rfl ?_
            refine zg_ref h rfl (by first | rfl | assumption) (by decide) rfl rfl ?_
            refine zn_bipush h 8 rfl rfl ?_
            refine zi_iload_n h rfl rfl ?_
            first | refine zn_imul h rfl ?_ | refine zi_imul h rfl ?_
            refine zi_iload_n h rfl rfl ?_
            refine zn_iconst h 4 rfl rfl ?_
            refine zn_idiv h rfl (by omega) (by omega) (by omega) ?_
            first | refine zn_iadd h rfl ?_ | refine zi_iadd h rfl ?_
            refine za_z h rfl (by first | rfl | assumption) rfl (by omega) (by decide) ?_
            show X 92 _ _ _ _
            first | refine zb_ifeq h rfl (fun hc => ?_) (fun hc => ?_) | refine zc_ifeq h rfl (fun hc => ?_) (fun hc => ?_)
            · have ih := ih (i + 1) (by omega) (by omega) (fun ⟨b, b1, b2, b3⟩ => by
                by_cases hb : b < i
                · exact hn ⟨b, b1, hb, b3⟩
                · obtain rfl : b = i := by omega
                  exact b3.elim (fun w => w c1) (fun w => w hc))
              first | refine zn_iinc h 1 rfl rfl rfl ?_ | refine zi_iinc h rfl rfl ?_
              refine zi_goto h rfl ?_
              exact ih
            · refine zn_iconst h 0 rfl rfl ?_
              refine zi_zret h rfl (by first | exact Or.inl rfl | exact Or.inr rfl | exact tw_nz_01 _ | assumption) ?_
              exact ka (Or.inl ⟨i, h16, by omega, Or.inr hc⟩)
    refine zn_bipush h 16 rfl rfl ?_
    refine zi_iload_n h rfl rfl ?_
    first | refine zn_imul h rfl ?_ | refine zi_imul h rfl ?_
    refine zi_istore_n h rfl (Nat.le_of_ble_eq_true rfl) ?_
    exact loop 16 (16 * u) (by omega) (by omega) (fun ⟨b, b1, b2, _⟩ => by omega)
  refine zi_aload_n h rfl rfl ?_
  refine zn_iconst h 0 rfl rfl ?_
  refine zp_int h rfl (by first | rfl | assumption) (by decide) rfl ?_
  refine tw_mem (g := g) (fun q j => by rw [← hg]; rfl) ?_
  refine zi_iload_n h rfl rfl ?_
  refine zn_iconst h 0 rfl rfl ?_
  refine zn_iconst h 1 rfl rfl ?_
  refine zk_S h [_, _, _] rfl rfl rfl (Nat.le_of_ble_eq_true rfl) (s_k_in1 (by omega) (by omega) ?_)
  first | refine zb_ifeq h rfl (fun hc => ?_) (fun hc => ?_) | refine zc_ifeq h rfl (fun hc => ?_) (fun hc => ?_)
  · exact absurd hc (by decide)
  · refine zi_aload_n h rfl rfl ?_
    refine zg_ref h rfl (by first | rfl | assumption) (by decide) rfl rfl ?_
    refine zn_iconst h 0 rfl rfl ?_
    refine za_z h rfl (by first | rfl | assumption) rfl (by omega) (by decide) ?_
    first | refine zb_ifeq h rfl (fun hc => ?_) (fun hc => ?_) | refine zc_ifeq h rfl (fun hc => ?_) (fun hc => ?_)
    · exact no (fun w => w.1 hc)
    · have c1 := hc
      refine zi_aload_n h rfl rfl ?_
      refine zg_ref h rfl (by first | rfl | assumption) (by decide) rfl rfl ?_
      refine zn_iconst h 1 rfl rfl ?_
      refine za_z h rfl (by first | rfl | assumption) rfl (by omega) (by decide) ?_
      first | refine zb_ifeq h rfl (fun hc => ?_) (fun hc => ?_) | refine zc_ifeq h rfl (fun hc => ?_) (fun hc => ?_)
      · exact no (fun w => w.2.1 hc)
      · have c2 := hc
        refine zi_aload_n h rfl rfl ?_
        refine zg_ref h rfl (by first | rfl | assumption) (by decide) rfl rfl ?_
        refine zn_iconst h 0 rfl rfl ?_
        refine za_z h rfl (by first | rfl | assumption) rfl (by omega) (by decide) ?_
        first | refine zb_ifeq h rfl (fun hc => ?_) (fun hc => ?_) | refine zc_ifeq h rfl (fun hc => ?_) (fun hc => ?_)
        · exact no (fun w => w.2.2.1 hc)
        · have c3 := hc
          refine zi_aload_n h rfl rfl ?_
          refine zg_ref h rfl (by first | rfl | assumption) (by decide) rfl rfl ?_
          refine zn_iconst h 1 rfl rfl ?_
          refine za_z h rfl (by first | rfl | assumption) rfl (by omega) (by decide) ?_
          first | refine zb_ifeq h rfl (fun hc => ?_) (fun hc => ?_) | refine zc_ifeq h rfl (fun hc => ?_) (fun hc => ?_)
          · exact no (fun w => w.2.2.2 hc)
          · have all := And.intro c1 (And.intro c2 (And.intro c3 hc))
            refine zi_aload_n h rfl rfl ?_
            refine zg_ref h rfl (by first | rfl | assumption) (by decide) rfl rfl ?_
            refine zi_iload_n h rfl rfl ?_
            refine za_z h rfl (by first | rfl | assumption) rfl (by omega) (by decide) ?_
            refine zi_aload_n h rfl rfl ?_
            refine zg_ref h rfl (by first | rfl | assumption) (by decide) rfl rfl ?_
            refine zn_iconst h 2 rfl rfl ?_
            refine zi_iload_n h rfl rfl ?_
            first | refine zn_iadd h rfl ?_ | refine zi_iadd h rfl ?_
            refine za_z h rfl (by first | rfl | assumption) rfl (by omega) (by decide) ?_
            refine zc_icmpeq h rfl (fun hc => ?_) (fun hc => ?_)
            · have hi : g 69 u = 0 ↔ g 69 (2 + u) = 0 := by
                rw [← tw_nz0 (x := g 69 u), hc]
                exact tw_nz0
              refine zn_iconst h 0 rfl rfl ?_
              refine zi_zret h rfl (by first | exact Or.inl rfl | exact Or.inr rfl | exact tw_nz_01 _ | assumption) ?_
              exact h1 all hi
            · have hi : ¬ (g 69 u = 0 ↔ g 69 (2 + u) = 0) := by
                intro w
                apply hc
                by_cases hz : g 69 u = 0
                · rw [hz, w.mp hz]
                · rw [tw_nz_t hz, tw_nz_t (fun y => hz (w.mpr y))]
              refine zi_aload_n h rfl rfl ?_
              refine zg_ref h rfl (by first | rfl | assumption) (by decide) rfl rfl ?_
              refine zn_iconst h 0 rfl rfl ?_
              refine za_n h m0 rfl (by first | rfl | assumption) rfl (by omega) (by decide) hm0 ?_
              refine zi_aload_n h rfl rfl ?_
              refine zg_ref h rfl (by first | rfl | assumption) (by decide) rfl rfl ?_
              refine zn_iconst h 1 rfl rfl ?_
              refine za_n h m1 rfl (by first | rfl | assumption) rfl (by omega) (by decide) hm1 ?_
              first | refine zn_iadd h rfl ?_ | refine zi_iadd h rfl ?_
              refine zc_ifle h rfl (fun hc => ?_) (fun hc => ?_)
              · have hz := (nI_leI (b := 0) (by omega) (by omega)).mp hc
                have h3 := h3 all (by omega) hi
                refine zn_iconst h 0 rfl rfl ?_
                refine zi_istore_n h rfl (Nat.le_of_ble_eq_true rfl) ?_
                refine zi_aload_n h rfl rfl ?_
                refine zg_ref h rfl (by first | rfl | assumption) (by decide) rfl rfl ?_
                refine zn_iconst h 2 rfl rfl ?_
                refine zi_iload_n h rfl rfl ?_
                first | refine zn_iadd h rfl ?_ | refine zi_iadd h rfl ?_
                refine za_z h rfl (by first | rfl | assumption) rfl (by omega) (by decide) ?_
                first | refine zb_ifeq h rfl (fun hc => ?_) (fun hc => ?_) | refine zc_ifeq h rfl (fun hc => ?_) (fun hc => ?_)
                · have h3 := h3 0 (Or.inl ⟨hc, rfl⟩)
                  exact rest 0 (by omega) h3.1 h3.2
                · have h3 := h3 1 (Or.inr ⟨hc, rfl⟩)
                  refine zn_iconst h 1 rfl rfl ?_
                  refine zi_istore_n h rfl (Nat.le_of_ble_eq_true rfl) ?_
                  exact rest 1 (by omega) h3.1 h3.2
              · have hz : ¬ (m0 = 0 ∧ m1 = 0) := by
                  rintro ⟨rfl, rfl⟩
                  exact hc (by decide)
                refine zn_iconst h 0 rfl rfl ?_
                refine zi_zret h rfl (by first | exact Or.inl rfl | exact Or.inr rfl | exact tw_nz_01 _ | assumption) ?_
                exact h2 all hi hz
