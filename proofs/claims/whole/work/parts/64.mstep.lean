/-! The reference: destaging, step. -/
set_option maxRecDepth 20000 in
theorem s_k_dest {fl : Bool} {d : Nat} {f : tw_S} {P : tw_S → Option tw_A → Prop} {c s k n tm : Nat} (hc : c < 2) (hs : f 87 c = nI s) (hs2 : s < 8) (hk : f 88 c = nI k) (hkn : k + n = 4 ∨ k = 5) (ht : f 61 39 = nI tm) (ht2 : tm ≤ 200) (hb : k_box f c) (h1 : k + n = 4 → p_ft (k_can f c s) n k < 4 → P (tw_up (k_begins f c (nI (p_dd s (p_ft (k_can f c s) n k))) (nI s) (f 90 (4 * c + p_ft (k_can f c s) n k))) 88 c (nI (p_ft (k_can f c s) n k + 1))) none) (h2 : k + n = 4 → ¬ p_ft (k_can f c s) n k < 4 → (¬ f 62 (p_pd s) = 0 ∧ ¬ f 93 c = 0) → P (k_begins (tw_up f 88 c (nI 5)) c (nI (p_pd s)) (nI s) (f 92 c)) none) (h3 : k + n = 4 → ¬ p_ft (k_can f c s) n k < 4 → ¬ (¬ f 62 (p_pd s) = 0 ∧ ¬ f 93 c = 0) → P (tw_up (k_fd (tw_up f 88 c (nI 5)) c s 4) 87 c (-1)) none) (h4 : k = 5 → P (tw_up (k_fd f c s 4) 87 c (-1)) none) : tS fl (d + 3) 133 [tw_R 61, tw_I (nI c)] f P := by
  have hcc := hc
  have hpd : p_pd s < 5 := by unfold p_pd; omega
  refine tw_Sp_of rfl rfl (Nat.le_of_ble_eq_true rfl) (fun X h => ?_)
  have fin : ∀ w : tw_S, w 61 39 = nI tm → k_box w c → P (tw_up (k_fd w c s 4) 87 c (-1)) none → X 117 [some (tw_R 61), some (tw_I (nI c)), some (tw_I (nI s)), none, none, none, none] [] tx_L0 w := by
    intro w w39 wb hP
    have loop : ∀ n i : Nat, i + n = 4 → ∀ l4 l5 l6 : Option tw_A, X 119 [some (tw_R 61), some (tw_I (nI c)), some (tw_I (nI s)), some (tw_I (nI i)), l4, l5, l6] [] tx_L0 (k_fd w c s i) := by
      intro n
      induction n with
      | zero =>
        intro i hi l4 l5 l6
        obtain rfl : i = 4 := by omega
        refine zi_iload_n h rfl rfl ?_
        refine zn_iconst h 4 rfl rfl ?_
        first | refine zn_icmpge h rfl (by omega) (by omega) (fun hc => ?_) (fun hc => ?_) | refine zc_icmpge h rfl (fun hc => ?_) (fun hc => ?_)
        · refine zi_aload_n h rfl rfl ?_
          refine zg_ref h rfl (by first | rfl | assumption) (by decide) rfl rfl ?_
          refine zi_iload_n h rfl rfl ?_
          refine zi_iconst h rfl ?_
          refine zs_i h rfl (by first | rfl | assumption) rfl (by omega) (by decide) ?_
          refine zi_vret h rfl ?_
          exact hP
        · omega
      | succ n ih =>
        intro i hi l4 l5 l6
        have ih := ih (i + 1) (by omega)
        have e89 : k_fd w c s i 89 (4 * c + i) = w 89 (4 * c + i) := k_fd_off (by omega) i
        have e91 : k_fd w c s i 91 (4 * c + i) = w 91 (4 * c + i) := k_fd_off (by omega) i
        have z39 : k_fd w c s i 61 39 = nI tm := by rw [k_fd_off (by omega) i]; exact w39
        have zb : k_box (k_fd w c s i) c := k_fd_box wb i
        rw [show k_fd w c s (i + 1) = if w 89 (4 * c + i) = 0 then k_fd w c s i else k_rel (k_fd w c s i) c (4 * s + i) (w 91 (4 * c + i)) from rfl] at ih
        generalize k_fd w c s i = z at ih e89 e91 z39 zb ⊢
        refine zi_iload_n h rfl rfl ?_
        refine zn_iconst h 4 rfl rfl ?_
        first | refine zn_icmpge h rfl (by omega) (by omega) (fun hc => ?_) (fun hc => ?_) | refine zc_icmpge h rfl (fun hc => ?_) (fun hc => ?_)
        · omega
        · refine zi_aload_n h rfl rfl ?_
          refine zg_ref h rfl (by first | rfl | assumption) (by decide) rfl rfl ?_
          refine zn_iconst h 4 rfl rfl ?_
          refine zi_iload_n h rfl rfl ?_
          first | refine zn_imul h rfl ?_ | refine zi_imul h rfl ?_
          refine zi_iload_n h rfl rfl ?_
          first | refine zn_iadd h rfl ?_ | refine zi_iadd h rfl ?_
          refine za_z h rfl (by first | rfl | assumption) rfl (by omega) (by decide) ?_
          rw [e89]
          refine zb_ifne h rfl (fun hc => ?_) (fun hc => ?_)
          · rw [if_neg hc] at ih
            generalize w 91 (4 * c + i) = v at ih e91
            have ec : (z 61 39).toNatClampNeg = tm := by rw [z39]; exact nI_clamp (by omega)
            refine zn_iconst h 4 rfl rfl ?_
            refine zi_iload_n h rfl rfl ?_
            first | refine zn_imul h rfl ?_ | refine zi_imul h rfl ?_
            refine zi_iload_n h rfl rfl ?_
            first | refine zn_iadd h rfl ?_ | refine zi_iadd h rfl ?_
            refine zi_istore h rfl (Nat.le_of_ble_eq_true rfl) ?_
            refine zi_aload_n h rfl rfl ?_
            refine zg_ref h rfl (by first | rfl | assumption) (by decide) rfl rfl ?_
            refine zn_iconst h 4 rfl rfl ?_
            refine zi_iload_n h rfl rfl ?_
            show X 142 _ _ _ _
            first | refine zn_imul h rfl ?_ | refine zi_imul h rfl ?_
            refine zi_iload_n h rfl rfl ?_
            first | refine zn_iadd h rfl ?_ | refine zi_iadd h rfl ?_
            refine za_i h rfl (by first | rfl | assumption) rfl (by omega) (by decide) ?_
            rw [e91]
            refine zi_istore h rfl (Nat.le_of_ble_eq_true rfl) ?_
            -- the tickets' loop, not paired
            have tl : ∀ y : tw_S, y 61 39 = nI tm → y 68 c = 0 → (∀ l6 : Option tw_A, X 238 [some (tw_R 61), some (tw_I (nI c)), some (tw_I (nI s)), some (tw_I (nI i)), some (tw_I (nI (4 * s + i))), some (tw_I v), l6] [] tx_L0 (k_fin y (nI c) (nI (4 * s + i)) v tm)) → ∀ l6 : Option tw_A, X 197 [some (tw_R 61), some (tw_I (nI c)), some (tw_I (nI s)), some (tw_I (nI i)), some (tw_I (nI (4 * s + i))), some (tw_I v), l6] [] tx_L0 y := by
              intro y y39 y68 hk l6
              have lp : ∀ n t : Nat, t + n = tm → X 199 [some (tw_R 61), some (tw_I (nI c)), some (tw_I (nI s)), some (tw_I (nI i)), some (tw_I (nI (4 * s + i))), some (tw_I v), some (tw_I (nI t))] [] tx_L0 (k_fin y (nI c) (nI (4 * s + i)) v t) := by
                intro n
                induction n with
                | zero =>
                  intro t htn
                  obtain rfl : t = tm := by omega
                  have g39 : k_fin y (nI c) (nI (4 * s + i)) v t 61 39 = nI t := by rw [k_fin, if_neg (by omega)]; exact y39
                  refine zi_iload h rfl rfl ?_
                  refine zi_aload_n h rfl rfl ?_
                  refine zg_nat h t rfl (by first | rfl | assumption) (by decide) rfl g39 ?_
                  first | refine zn_icmpge h rfl (by omega) (by omega) (fun hc => ?_) (fun hc => ?_) | refine zc_icmpge h rfl (fun hc => ?_) (fun hc => ?_)
                  · exact hk _
                  · omega
                | succ n ih =>
                  intro t htn
                  have ih := ih (t + 1) (by omega)
                  have off : ∀ a b, a ≠ 99 ∨ b = t → k_fin y (nI c) (nI (4 * s + i)) v t a b = y a b := fun a b u => by
                    rw [k_fin, if_neg (by omega)]
                  have g39 : k_fin y (nI c) (nI (4 * s + i)) v t 61 39 = nI tm := by rw [off _ _ (by omega)]; exact y39
                  have skip : ¬ (y 101 t = nI c ∧ y 99 t = 0 ∧ y 102 t = nI (4 * s + i) ∧ ¬ v < y 103 t) → X 236 [some (tw_R 61), some (tw_I (nI c)), some (tw_I (nI s)), some (tw_I (nI i)), some (tw_I (nI (4 * s + i))), some (tw_I v), some (tw_I (nI t))] [] tx_L0 (k_fin y (nI c) (nI (4 * s + i)) v t) := by
                    intro hn
                    first | refine zn_iinc h 1 rfl rfl rfl ?_ | refine zi_iinc h rfl rfl ?_
                    refine zi_goto h rfl ?_
                    refine tw_mem (fun q j => ?_) ih
                    unfold k_fin
                    by_cases hj : j = t
                    · subst hj
                      rw [if_neg (by omega), if_neg (fun u => hn u.2.2)]
                    · have e1 : (j < t + 1) = (j < t) := by apply propext; omega
                      simp only [e1]
                  refine zi_iload h rfl rfl ?_
                  refine zi_aload_n h rfl rfl ?_
                  refine zg_nat h tm rfl (by first | rfl | assumption) (by decide) rfl g39 ?_
                  first | refine zn_icmpge h rfl (by omega) (by omega) (fun hc => ?_) (fun hc => ?_) | refine zc_icmpge h rfl (fun hc => ?_) (fun hc => ?_)
                  · omega
                  · refine zi_aload_n h rfl rfl ?_
                    refine zg_ref h rfl (by first | rfl | assumption) (by decide) rfl rfl ?_
                    refine zi_iload_n h rfl rfl ?_
                    refine za_z h rfl (by first | rfl | assumption) rfl (by omega) (by decide) ?_
                    rw [off _ _ (by omega)]
                    refine zb_ifne h rfl (fun hc => ?_) (fun hc => ?_)
                    · exact absurd y68 hc
                    · refine zi_aload_n h rfl rfl ?_
                      refine zg_ref h rfl (by first | rfl | assumption) (by decide) rfl rfl ?_
                      refine zi_iload h rfl rfl ?_
                      refine za_i h rfl (by first | rfl | assumption) rfl (by omega) (by decide) ?_
                      refine zi_iload_n h rfl rfl ?_
                      rw [off _ _ (by omega)]
                      refine zc_icmpne h rfl (fun hc => ?_) (fun hc => ?_)
                      · exact skip (fun u => hc u.1)
                      · have c1 := hc
                        refine zi_aload_n h rfl rfl ?_
                        refine zg_ref h rfl (by first | rfl | assumption) (by decide) rfl rfl ?_
                        refine zi_iload h rfl rfl ?_
                        refine za_i h rfl (by first | rfl | assumption) rfl (by omega) (by decide) ?_
                        rw [off _ _ (by omega)]
                        refine zc_ifne h rfl (fun hc => ?_) (fun hc => ?_)
                        · exact skip (fun u => hc u.2.1)
                        · have c2 := hc
                          refine zi_aload_n h rfl rfl ?_
                          refine zg_ref h rfl (by first | rfl | assumption) (by decide) rfl rfl ?_
                          refine zi_iload h rfl rfl ?_
                          refine za_i h rfl (by first | rfl | assumption) rfl (by omega) (by decide) ?_
                          refine zi_iload h rfl rfl ?_
                          rw [off _ _ (by omega)]
                          refine zc_icmpne h rfl (fun hc => ?_) (fun hc => ?_)
                          · exact skip (fun u => hc u.2.2.1)
                          · have c3 := hc
                            refine zi_aload_n h rfl rfl ?_
                            refine zg_ref h rfl (by first | rfl | assumption) (by decide) rfl rfl ?_
                            refine zi_iload h rfl rfl ?_
                            refine za_i h rfl (by first | rfl | assumption) rfl (by omega) (by decide) ?_
                            refine zi_iload h rfl rfl ?_
                            rw [off _ _ (by omega)]
                            refine zc_icmpgt h rfl (fun hc => ?_) (fun hc => ?_)
                            · exact skip (fun u => u.2.2.2 hc)
                            · refine zi_aload_n h rfl rfl ?_
                              refine zg_ref h rfl (by first | rfl | assumption) (by decide) rfl rfl ?_
                              refine zi_iload h rfl rfl ?_
                              refine zn_iconst h 1 rfl rfl ?_
                              refine zs_i h rfl (by first | rfl | assumption) rfl (by omega) (by decide) ?_
                              first | refine zn_iinc h 1 rfl rfl rfl ?_ | refine zi_iinc h rfl rfl ?_
                              refine zi_goto h rfl ?_
                              refine tw_mem (fun q j => ?_) ih
                              unfold k_fin tw_up
                              by_cases hj : j = t
                              · subst hj
                                by_cases hq : q = 99
                                · subst hq
                                  simp [c1, c2, c3, hc, tw_n1]
                                · simp [hq]
                              · have e1 : (j < t + 1) = (j < t) := by apply propext; omega
                                simp [e1, hj]
              refine zn_iconst h 0 rfl rfl ?_
              refine zi_istore h rfl (Nat.le_of_ble_eq_true rfl) ?_
              refine tw_mem (fun q j => ?_) (lp tm 0 (by omega))
              rw [k_fin, if_neg (by omega)]
            have tl2 : ∀ y : tw_S, y 61 39 = nI tm → ¬ y 68 c = 0 → (∀ l6 : Option tw_A, X 238 [some (tw_R 61), some (tw_I (nI c)), some (tw_I (nI s)), some (tw_I (nI i)), some (tw_I (nI (4 * s + i))), some (tw_I v), l6] [] tx_L0 y) → ∀ l6 : Option tw_A, X 197 [some (tw_R 61), some (tw_I (nI c)), some (tw_I (nI s)), some (tw_I (nI i)), some (tw_I (nI (4 * s + i))), some (tw_I v), l6] [] tx_L0 y := by
              intro y y39 y68 hk l6
              refine zn_iconst h 0 rfl rfl ?_
              refine zi_istore h rfl (Nat.le_of_ble_eq_true rfl) ?_
              refine zi_iload h rfl rfl ?_
              refine zi_aload_n h rfl rfl ?_
              refine zg_nat h tm rfl (by first | rfl | assumption) (by decide) rfl y39 ?_
              first | refine zn_icmpge h rfl (by omega) (by omega) (fun hc => ?_) (fun hc => ?_) | refine zc_icmpge h rfl (fun hc => ?_) (fun hc => ?_)
              · exact hk _
              · refine zi_aload_n h rfl rfl ?_
                refine zg_ref h rfl (by first | rfl | assumption) (by decide) rfl rfl ?_
                refine zi_iload_n h rfl rfl ?_
                refine za_z h rfl (by first | rfl | assumption) rfl (by omega) (by decide) ?_
                first | refine zb_ifne h rfl (fun hc => ?_) (fun hc => ?_) | refine zc_ifne h rfl (fun hc => ?_) (fun hc => ?_)
                · exact hk _
                · exact absurd hc y68
            have nxt : ∀ l6 : Option tw_A, X 238 [some (tw_R 61), some (tw_I (nI c)), some (tw_I (nI s)), some (tw_I (nI i)), some (tw_I (nI (4 * s + i))), some (tw_I v), l6] [] tx_L0 (k_rel z c (4 * s + i) v) := by
              intro l6
              first | refine zn_iinc h 1 rfl rfl rfl ?_ | refine zi_iinc h rfl rfl ?_
              refine zi_goto h rfl ?_
              exact ih _ _ _
            have no : ¬ (¬ z 70 (32 * c + (4 * s + i)) = 0 ∧ ¬ z 73 (32 * c + (4 * s + i)) = 0 ∧ z 72 (32 * c + (4 * s + i)) = v) → ∀ l6 : Option tw_A, X 197 [some (tw_R 61), some (tw_I (nI c)), some (tw_I (nI s)), some (tw_I (nI i)), some (tw_I (nI (4 * s + i))), some (tw_I v), l6] [] tx_L0 z := by
              intro hn l6
              by_cases h68 : z 68 c = 0
              · rw [k_rel, if_pos h68, if_neg hn, ec] at nxt
                exact tl z z39 h68 nxt l6
              · rw [k_rel, if_neg h68, if_neg hn] at nxt
                exact tl2 z z39 h68 nxt l6
            refine zi_aload_n h rfl rfl ?_
            refine zg_ref h rfl (by first | rfl | assumption) (by decide) rfl rfl ?_
            refine zn_bipush h 32 rfl rfl ?_
            refine zi_iload_n h rfl rfl ?_
            first | refine zn_imul h rfl ?_ | refine zi_imul h rfl ?_
            refine zi_iload h rfl rfl ?_
            first | refine zn_iadd h rfl ?_ | refine zi_iadd h rfl ?_
            refine za_z h rfl (by first | rfl | assumption) rfl (by omega) (by decide) ?_
            first | refine zb_ifeq h rfl (fun hc => ?_) (fun hc => ?_) | refine zc_ifeq h rfl (fun hc => ?_) (fun hc => ?_)
            · exact no (fun u => u.1 hc) _
            · have c1 := hc
              refine zi_aload_n h rfl rfl ?_
              refine zg_ref h rfl (by first | rfl | assumption) (by decide) rfl rfl ?_
              refine zn_bipush h 32 rfl rfl ?_
              refine zi_iload_n h rfl rfl ?_
              first | refine zn_imul h rfl ?_ | refine zi_imul h rfl ?_
              refine zi_iload h rfl rfl ?_
              first | refine zn_iadd h rfl ?_ | refine zi_iadd h rfl ?_
              refine za_z h rfl (by first | rfl | assumption) rfl (by omega) (by decide) ?_
              first | refine zb_ifeq h rfl (fun hc => ?_) (fun hc => ?_) | refine zc_ifeq h rfl (fun hc => ?_) (fun hc => ?_)
              · exact no (fun u => u.2.1 hc) _
              · have c2 := hc
                refine zi_aload_n h rfl rfl ?_
                refine zg_ref h rfl (by first | rfl | assumption) (by decide) rfl rfl ?_
                refine zn_bipush h 32 rfl rfl ?_
                refine zi_iload_n h rfl rfl ?_
                first | refine zn_imul h rfl ?_ | refine zi_imul h rfl ?_
                refine zi_iload h rfl rfl ?_
                first | refine zn_iadd h rfl ?_ | refine zi_iadd h rfl ?_
                refine za_i h rfl (by first | rfl | assumption) rfl (by omega) (by decide) ?_
                refine zi_iload h rfl rfl ?_
                refine zc_icmpne h rfl (fun hc => ?_) (fun hc => ?_)
                · exact no (fun u => hc u.2.2) _
                · have c3 := hc
                  have e68 : tw_up z 73 (32 * c + (4 * s + i)) 0 68 c = z 68 c := tw_off (by omega)
                  have u39 : tw_up z 73 (32 * c + (4 * s + i)) 0 61 39 = nI tm := by rw [tw_off (by omega)]; exact z39
                  refine zi_aload_n h rfl rfl ?_
                  refine zg_ref h rfl (by first | rfl | assumption) (by decide) rfl rfl ?_
                  refine zn_bipush h 32 rfl rfl ?_
                  refine zi_iload_n h rfl rfl ?_
                  first | refine zn_imul h rfl ?_ | refine zi_imul h rfl ?_
                  refine zi_iload h rfl rfl ?_
                  first | refine zn_iadd h rfl ?_ | refine zi_iadd h rfl ?_
                  refine zn_iconst h 0 rfl rfl ?_
                  refine zs_z h rfl (by first | rfl | assumption) rfl (by omega) (by decide) (by first | exact Or.inl rfl | exact Or.inr rfl | exact tw_nz_01 _ | assumption) ?_
                  refine tw_mem (g := tw_up z 73 (32 * c + (4 * s + i)) 0) (fun _ _ => rfl) ?_
                  refine zi_aload_n h rfl rfl ?_
                  refine zg_ref h rfl (by first | rfl | assumption) (by decide) rfl rfl ?_
                  refine zi_iload_n h rfl rfl ?_
                  refine za_z h rfl (by first | rfl | assumption) rfl (by omega) (by decide) ?_
                  rw [e68]
                  refine zb_ifeq h rfl (fun hc => ?_) (fun hc => ?_)
                  · rw [k_rel, if_pos hc, if_pos ⟨c1, c2, c3⟩, ec] at nxt
                    exact tl _ u39 (by rw [e68]; exact hc) nxt _
                  · rw [k_rel, if_neg hc, if_pos ⟨c1, c2, c3⟩] at nxt
                    obtain ⟨m, b1, b2⟩ := zb
                    refine zi_aload_n h rfl rfl ?_
                    refine zi_iload_n h rfl rfl ?_
                    refine zn_iconst h 2 rfl rfl ?_
                    refine zi_iload h rfl rfl ?_
                    refine zi_iload h rfl rfl ?_
                    refine zn_iconst h 0 rfl rfl ?_
                    refine zn_iconst h 0 rfl rfl ?_
                    refine zk_V h [_, _, _, _, _, _] rfl (by first | rfl | assumption) rfl rfl (Nat.le_of_ble_eq_true rfl) (s_k_send hcc (by rw [tw_off (by omega)]; exact b1) b2 ?_)
                    exact tl2 _ (by rw [k_send_off (by omega)]; exact u39) (by rw [k_send_off (by omega), e68]; exact hc) nxt _
          · rw [if_pos hc] at ih
            refine zi_goto h rfl ?_
            first | refine zn_iinc h 1 rfl rfl rfl ?_ | refine zi_iinc h rfl rfl ?_
            refine zi_goto h rfl ?_
            exact ih _ _ _
    refine zn_iconst h 0 rfl rfl ?_
    refine zi_istore_n h rfl (Nat.le_of_ble_eq_true rfl) ?_
    exact loop 4 0 (by omega) _ _ _
  have after : ∀ e : Nat, e ≤ 4 → (k + n = 4) → e = p_ft (k_can f c s) n k → X 45 [some (tw_R 61), some (tw_I (nI c)), some (tw_I (nI s)), none, none, none, none] [] tx_L0 (tw_up f 88 c (nI e)) := by
    intro e he4 hkn he
    have hdd := p_dd_lt (s := s) (k := e)
    refine zi_aload_n h rfl rfl ?_
    refine zg_ref h rfl (by first | rfl | assumption) (by decide) rfl rfl ?_
    refine zi_iload_n h rfl rfl ?_
    refine za_n h e rfl (by first | rfl | assumption) rfl (by omega) (by decide) (by simp [tw_up]) ?_
    refine zn_iconst h 4 rfl rfl ?_
    first | refine zn_icmpge h rfl (by omega) (by omega) (fun hc => ?_) (fun hc => ?_) | refine zc_icmpge h rfl (fun hc => ?_) (fun hc => ?_)
    · obtain rfl : e = 4 := by omega
      have e62 : tw_up (tw_up f 88 c (nI 4)) 88 c (nI 5) 62 (p_pd s) = f 62 (p_pd s) := by rw [tw_off (by omega), tw_off (by omega)]
      have e93 : tw_up (tw_up f 88 c (nI 4)) 88 c (nI 5) 93 c = f 93 c := by rw [tw_off (by omega), tw_off (by omega)]
      have e92 : tw_up (tw_up f 88 c (nI 4)) 88 c (nI 5) 92 c = f 92 c := by rw [tw_off (by omega), tw_off (by omega)]
      have e88 : tw_up (tw_up f 88 c (nI 4)) 88 c (nI 5) = tw_up f 88 c (nI 5) := by
        funext q j
        unfold tw_up
        split <;> rfl
      have fin3 : ¬ (¬ f 62 (p_pd s) = 0 ∧ ¬ f 93 c = 0) → X 117 [some (tw_R 61), some (tw_I (nI c)), some (tw_I (nI s)), none, none, none, none] [] tx_L0 (tw_up f 88 c (nI 5)) := by
        intro hn
        refine fin _ (by rw [tw_off (by omega)]; exact ht) ?_ (h3 hkn (by omega) hn)
        obtain ⟨m, b1, b2⟩ := hb
        exact ⟨m, by rw [tw_off (by omega)]; exact b1, b2⟩
      refine zi_aload_n h rfl rfl ?_
      refine zg_ref h rfl (by first | rfl | assumption) (by decide) rfl rfl ?_
      refine zi_iload_n h rfl rfl ?_
      refine za_n h 4 rfl (by first | rfl | assumption) rfl (by omega) (by decide) (by simp [tw_up]) ?_
      refine zn_iconst h 4 rfl rfl ?_
      first | refine zn_icmpne h rfl (by omega) (by omega) (fun hc => ?_) (fun hc => ?_) | refine zc_icmpne h rfl (fun hc => ?_) (fun hc => ?_)
      · omega
      · refine zi_aload_n h rfl rfl ?_
        refine zg_ref h rfl (by first | rfl | assumption) (by decide) rfl rfl ?_
        refine zi_iload_n h rfl rfl ?_
        refine zn_iconst h 5 rfl rfl ?_
        refine zs_i h rfl (by first | rfl | assumption) rfl (by omega) (by decide) ?_
        refine zi_aload_n h rfl rfl ?_
        refine zg_ref h rfl (by first | rfl | assumption) (by decide) rfl rfl ?_
        refine zi_iload_n h rfl rfl ?_
        refine zk_S h [_] rfl rfl rfl (Nat.le_of_ble_eq_true rfl) (s_k_parityDisk hs2 ?_)
        refine za_z h rfl (by first | rfl | assumption) rfl (by omega) (by decide) ?_
        rw [e62]
        refine zb_ifeq h rfl (fun hc => ?_) (fun hc => ?_)
        · rw [e88]
          exact fin3 (fun u => u.1 hc)
        · have c1 := hc
          refine zi_aload_n h rfl rfl ?_
          refine zg_ref h rfl (by first | rfl | assumption) (by decide) rfl rfl ?_
          refine zi_iload_n h rfl rfl ?_
          refine za_z h rfl (by first | rfl | assumption) rfl (by omega) (by decide) ?_
          rw [e93]
          refine zb_ifeq h rfl (fun hc => ?_) (fun hc => ?_)
          · rw [e88]
            exact fin3 (fun u => u.2 hc)
          · refine zi_aload_n h rfl rfl ?_
            refine zi_iload_n h rfl rfl ?_
            refine zi_iload_n h rfl rfl ?_
            refine zk_S h [_] rfl rfl rfl (Nat.le_of_ble_eq_true rfl) (s_k_parityDisk hs2 ?_)
            refine zi_iload_n h rfl rfl ?_
            refine zi_aload_n h rfl rfl ?_
            refine zg_ref h rfl (by first | rfl | assumption) (by decide) rfl rfl ?_
            refine zi_iload_n h rfl rfl ?_
            refine za_i h rfl (by first | rfl | assumption) rfl (by omega) (by decide) ?_
            rw [e92]
            refine zk_V h [_, _, _, _] rfl (by first | rfl | assumption) rfl rfl (Nat.le_of_ble_eq_true rfl) (s_k_begins hcc ?_)
            rw [e88]
            refine zi_vret h rfl ?_
            exact h2 hkn (by omega) ⟨c1, hc⟩
    · have h1 := h1 hkn (by omega)
      rw [← he] at h1
      have hdd := hdd (by omega)
      have e90 : tw_up f 88 c (nI e) 90 (4 * c + e) = f 90 (4 * c + e) := tw_off (by omega)
      refine zi_aload_n h rfl rfl ?_
      refine zi_iload_n h rfl rfl ?_
      refine zn_iconst h 4 rfl rfl ?_
      refine zi_iload_n h rfl rfl ?_
      first | refine zn_imul h rfl ?_ | refine zi_imul h rfl ?_
      refine zi_aload_n h rfl rfl ?_
      refine zg_ref h rfl (by first | rfl | assumption) (by decide) rfl rfl ?_
      refine zi_iload_n h rfl rfl ?_
      refine za_n h e rfl (by first | rfl | assumption) rfl (by omega) (by decide) (by simp [tw_up]) ?_
      first | refine zn_iadd h rfl ?_ | refine zi_iadd h rfl ?_
      refine zk_S h [_] rfl rfl rfl (Nat.le_of_ble_eq_true rfl) (s_k_dataDisk (by omega) ?_)
      rw [show (4 * s + e) / 4 = s by omega, show (4 * s + e) % 4 = e by omega]
      refine zi_iload_n h rfl rfl ?_
      refine zi_aload_n h rfl rfl ?_
      refine zg_ref h rfl (by first | rfl | assumption) (by decide) rfl rfl ?_
      refine zn_iconst h 4 rfl rfl ?_
      refine zi_iload_n h rfl rfl ?_
      first | refine zn_imul h rfl ?_ | refine zi_imul h rfl ?_
      refine zi_aload_n h rfl rfl ?_
      refine zg_ref h rfl (by first | rfl | assumption) (by decide) rfl rfl ?_
      refine zi_iload_n h rfl rfl ?_
      refine za_n h e rfl (by first | rfl | assumption) rfl (by omega) (by decide) (by simp [tw_up]) ?_
      first | refine zn_iadd h rfl ?_ | refine zi_iadd h rfl ?_
      refine za_i h rfl (by first | rfl | assumption) rfl (by omega) (by decide) ?_
      rw [e90]
      refine zk_V h [_, _, _, _] rfl (by first | rfl | assumption) rfl rfl (Nat.le_of_ble_eq_true rfl) (s_k_begins hcc ?_)
      refine zi_aload_n h rfl rfl ?_
      refine zg_ref h rfl (by first | rfl | assumption) (by decide) rfl rfl ?_
      refine zi_iload_n h rfl rfl ?_
      refine zi_dup2 h rfl rfl rfl ?_
      refine za_n h e rfl (by first | rfl | assumption) rfl (by omega) (by decide) (by simp [k_begins, tw_up]) ?_
      refine zn_iconst h 1 rfl rfl ?_
      first | refine zn_iadd h rfl ?_ | refine zi_iadd h rfl ?_
      refine zs_i h rfl (by first | rfl | assumption) rfl (by omega) (by decide) ?_
      refine zi_vret h rfl ?_
      refine tw_memP (fun q j => ?_) h1
      have e67 : tw_up f 88 c (nI e) 67 c = f 67 c := tw_off (by omega)
      unfold k_begins
      rw [e67]
      unfold tw_up
      (repeat' split) <;> first | rfl | omega
  have loop : ∀ m e : Nat, e + m = 4 → k + n = 4 → p_ft (k_can f c s) m e = p_ft (k_can f c s) n k → X 5 [some (tw_R 61), some (tw_I (nI c)), some (tw_I (nI s)), none, none, none, none] [] tx_L0 (tw_up f 88 c (nI e)) := by
    intro m
    induction m with
    | zero =>
      intro e he hkn hp
      obtain rfl : e = 4 := by omega
      have hp : 4 = p_ft (k_can f c s) n k := hp
      refine zi_aload_n h rfl rfl ?_
      refine zg_ref h rfl (by first | rfl | assumption) (by decide) rfl rfl ?_
      refine zi_iload_n h rfl rfl ?_
      refine za_n h 4 rfl (by first | rfl | assumption) rfl (by omega) (by decide) (by simp [tw_up]) ?_
      refine zn_iconst h 4 rfl rfl ?_
      first | refine zn_icmpge h rfl (by omega) (by omega) (fun hc => ?_) (fun hc => ?_) | refine zc_icmpge h rfl (fun hc => ?_) (fun hc => ?_)
      · exact after 4 (by omega) hkn hp
      · omega
    | succ m ih =>
      intro e he hkn hp
      have hdd := p_dd_lt (s := s) (k := e) (by omega)
      have e89 : tw_up f 88 c (nI e) 89 (4 * c + e) = f 89 (4 * c + e) := tw_off (by omega)
      have e62 : tw_up f 88 c (nI e) 62 (p_dd s e) = f 62 (p_dd s e) := tw_off (by omega)
      have nxt : k_can f c s e = 0 → X 36 [some (tw_R 61), some (tw_I (nI c)), some (tw_I (nI s)), none, none, none, none] [] tx_L0 (tw_up f 88 c (nI e)) := by
        intro hz
        have ih := ih (e + 1) (by omega) hkn (by rw [← hp]; simp [p_ft, hz])
        refine zi_aload_n h rfl rfl ?_
        refine zg_ref h rfl (by first | rfl | assumption) (by decide) rfl rfl ?_
        refine zi_iload_n h rfl rfl ?_
        refine zi_dup2 h rfl rfl rfl ?_
        refine za_n h e rfl (by first | rfl | assumption) rfl (by omega) (by decide) (by simp [tw_up]) ?_
        refine zn_iconst h 1 rfl rfl ?_
        first | refine zn_iadd h rfl ?_ | refine zi_iadd h rfl ?_
        refine zs_i h rfl (by first | rfl | assumption) rfl (by omega) (by decide) ?_
        refine zi_goto h rfl ?_
        refine tw_mem (fun q j => ?_) ih
        unfold tw_up
        split <;> rfl
      refine zi_aload_n h rfl rfl ?_
      refine zg_ref h rfl (by first | rfl | assumption) (by decide) rfl rfl ?_
      refine zi_iload_n h rfl rfl ?_
      refine za_n h e rfl (by first | rfl | assumption) rfl (by omega) (by decide) (by simp [tw_up]) ?_
      refine zn_iconst h 4 rfl rfl ?_
      first | refine zn_icmpge h rfl (by omega) (by omega) (fun hc => ?_) (fun hc => ?_) | refine zc_icmpge h rfl (fun hc => ?_) (fun hc => ?_)
      · omega
      · refine zi_aload_n h rfl rfl ?_
        refine zg_ref h rfl (by first | rfl | assumption) (by decide) rfl rfl ?_
        refine zn_iconst h 4 rfl rfl ?_
        refine zi_iload_n h rfl rfl ?_
        first | refine zn_imul h rfl ?_ | refine zi_imul h rfl ?_
        refine zi_aload_n h rfl rfl ?_
        refine zg_ref h rfl (by first | rfl | assumption) (by decide) rfl rfl ?_
        refine zi_iload_n h rfl rfl ?_
        refine za_n h e rfl (by first | rfl | assumption) rfl (by omega) (by decide) (by simp [tw_up]) ?_
        first | refine zn_iadd h rfl ?_ | refine zi_iadd h rfl ?_
        refine za_z h rfl (by first | rfl | assumption) rfl (by omega) (by decide) ?_
        rw [e89]
        refine zb_ifeq h rfl (fun hc => ?_) (fun hc => ?_)
        · exact nxt (if_pos (Or.inl hc))
        · have c1 := hc
          refine zi_aload_n h rfl rfl ?_
          refine zg_ref h rfl (by first | rfl | assumption) (by decide) rfl rfl ?_
          refine zn_iconst h 4 rfl rfl ?_
          refine zi_iload_n h rfl rfl ?_
          first | refine zn_imul h rfl ?_ | refine zi_imul h rfl ?_
          refine zi_aload_n h rfl rfl ?_
          refine zg_ref h rfl (by first | rfl | assumption) (by decide) rfl rfl ?_
          refine zi_iload_n h rfl rfl ?_
          refine za_n h e rfl (by first | rfl | assumption) rfl (by omega) (by decide) (by simp [tw_up]) ?_
          first | refine zn_iadd h rfl ?_ | refine zi_iadd h rfl ?_
          refine zk_S h [_] rfl rfl rfl (Nat.le_of_ble_eq_true rfl) (s_k_dataDisk (by omega) ?_)
          rw [show (4 * s + e) / 4 = s by omega, show (4 * s + e) % 4 = e by omega]
          refine za_z h rfl (by first | rfl | assumption) rfl (by omega) (by decide) ?_
          rw [e62]
          refine zb_ifne h rfl (fun hc => ?_) (fun hc => ?_)
          · have hz : ¬ k_can f c s e = 0 := by
              rw [k_can, if_neg (fun u => u.elim c1 hc)]
              decide
            exact after e (by omega) hkn (by rw [← hp]; simp [p_ft, hz])
          · exact nxt (if_pos (Or.inr hc))
  have same : tw_up f 88 c (nI k) = f := by
    funext q j
    unfold tw_up
    split
    · rename_i u
      rw [u.1, u.2, hk]
    · rfl
  refine zi_aload_n h rfl rfl ?_
  refine zg_ref h rfl (by first | rfl | assumption) (by decide) rfl rfl ?_
  refine zi_iload_n h rfl rfl ?_
  refine za_n h s rfl (by first | rfl | assumption) rfl (by omega) (by decide) hs ?_
  refine zi_istore_n h rfl (Nat.le_of_ble_eq_true rfl) ?_
  rcases hkn with hkn | hkn
  · have lp := loop n k hkn hkn rfl
    rw [same] at lp
    exact lp
  · subst hkn
    refine zi_aload_n h rfl rfl ?_
    refine zg_ref h rfl (by first | rfl | assumption) (by decide) rfl rfl ?_
    refine zi_iload_n h rfl rfl ?_
    refine za_n h 5 rfl (by first | rfl | assumption) rfl (by omega) (by decide) hk ?_
    refine zn_iconst h 4 rfl rfl ?_
    first | refine zn_icmpge h rfl (by omega) (by omega) (fun hc => ?_) (fun hc => ?_) | refine zc_icmpge h rfl (fun hc => ?_) (fun hc => ?_)
    · refine zi_aload_n h rfl rfl ?_
      refine zg_ref h rfl (by first | rfl | assumption) (by decide) rfl rfl ?_
      refine zi_iload_n h rfl rfl ?_
      refine za_n h 5 rfl (by first | rfl | assumption) rfl (by omega) (by decide) hk ?_
      refine zn_iconst h 4 rfl rfl ?_
      first | refine zn_icmpge h rfl (by omega) (by omega) (fun hc => ?_) (fun hc => ?_) | refine zc_icmpge h rfl (fun hc => ?_) (fun hc => ?_)
      · refine zi_aload_n h rfl rfl ?_
        refine zg_ref h rfl (by first | rfl | assumption) (by decide) rfl rfl ?_
        refine zi_iload_n h rfl rfl ?_
        refine za_n h 5 rfl (by first | rfl | assumption) rfl (by omega) (by decide) hk ?_
        refine zn_iconst h 4 rfl rfl ?_
        first | refine zn_icmpne h rfl (by omega) (by omega) (fun hc => ?_) (fun hc => ?_) | refine zc_icmpne h rfl (fun hc => ?_) (fun hc => ?_)
        · exact fin f ht hb (h4 rfl)
        · omega
      · omega
    · omega
set_option maxRecDepth 20000 in
theorem s_k_takesStripe {fl : Bool} {d : Nat} {f : tw_S} {P : tw_S → Option tw_A → Prop} {c : Nat} (hc : c < 2) (hb : k_box f c) (hP : P (k_bd f c (p_ds (fun j => f 73 (32 * c + j)) 7) 4) none) : tS fl (d + 4) 136 [tw_R 61, tw_I (nI c)] f P := by
  have hcc := hc
  refine tw_Sp_of rfl rfl (Nat.le_of_ble_eq_true rfl) (fun X h => ?_)
  have main : ∀ s : Nat, s < 8 → P (k_bd f c s 4) none → X 20 [some (tw_R 61), some (tw_I (nI c)), some (tw_I (nI s)), some (tw_I (nI 8)), none] [] tx_L0 f := by
    intro s hs hP
    have loop : ∀ n i : Nat, i + n = 4 → ∀ l4 : Option tw_A, X 64 [some (tw_R 61), some (tw_I (nI c)), some (tw_I (nI s)), some (tw_I (nI i)), l4] [] tx_L0 (k_bd f c s i) := by
      intro n
      induction n with
      | zero =>
        intro i hi l4
        obtain rfl : i = 4 := by omega
        refine zi_iload_n h rfl rfl ?_
        refine zn_iconst h 4 rfl rfl ?_
        first | refine zn_icmpge h rfl (by omega) (by omega) (fun hc => ?_) (fun hc => ?_) | refine zc_icmpge h rfl (fun hc => ?_) (fun hc => ?_)
        · refine zi_vret h rfl ?_
          exact hP
        · omega
      | succ n ih =>
        intro i hi l4
        have ih := ih (i + 1) (by omega)
        rw [show k_bd f c s (i + 1) = k_td (k_bd f c s i) c (4 * s + i) i from rfl] at ih
        generalize k_bd f c s i = z at ih ⊢
        refine zi_iload_n h rfl rfl ?_
        refine zn_iconst h 4 rfl rfl ?_
        first | refine zn_icmpge h rfl (by omega) (by omega) (fun hc => ?_) (fun hc => ?_) | refine zc_icmpge h rfl (fun hc => ?_) (fun hc => ?_)
        · omega
        · refine zn_iconst h 4 rfl rfl ?_
          refine zi_iload_n h rfl rfl ?_
          first | refine zn_imul h rfl ?_ | refine zi_imul h rfl ?_
          refine zi_iload_n h rfl rfl ?_
          first | refine zn_iadd h rfl ?_ | refine zi_iadd h rfl ?_
          refine zi_istore h rfl (Nat.le_of_ble_eq_true rfl) ?_
          refine zi_aload_n h rfl rfl ?_
          refine zg_ref h rfl (by first | rfl | assumption) (by decide) rfl rfl ?_
          refine zn_iconst h 4 rfl rfl ?_
          refine zi_iload_n h rfl rfl ?_
          show X 77 _ _ _ _
          first | refine zn_imul h rfl ?_ | refine zi_imul h rfl ?_
          refine zi_iload_n h rfl rfl ?_
          first | refine zn_iadd h rfl ?_ | refine zi_iadd h rfl ?_
          refine zi_aload_n h rfl rfl ?_
          refine zg_ref h rfl (by first | rfl | assumption) (by decide) rfl rfl ?_
          refine zn_bipush h 32 rfl rfl ?_
          refine zi_iload_n h rfl rfl ?_
          first | refine zn_imul h rfl ?_ | refine zi_imul h rfl ?_
          refine zi_iload h rfl rfl ?_
          first | refine zn_iadd h rfl ?_ | refine zi_iadd h rfl ?_
          show X 87 _ _ _ _
          refine za_z h rfl (by first | rfl | assumption) rfl (by omega) (by decide) ?_
          refine zs_z h rfl (by first | rfl | assumption) rfl (by omega) (by decide) (by first | exact Or.inl rfl | exact Or.inr rfl | exact tw_nz_01 _ | assumption) ?_
          have e89 : tw_up z 89 (4 * c + i) (tw_nz (z 73 (32 * c + (4 * s + i)))) 89 (4 * c + i) = tw_nz (z 73 (32 * c + (4 * s + i))) := by simp [tw_up]
          refine zi_aload_n h rfl rfl ?_
          refine zg_ref h rfl (by first | rfl | assumption) (by decide) rfl rfl ?_
          refine zn_iconst h 4 rfl rfl ?_
          refine zi_iload_n h rfl rfl ?_
          first | refine zn_imul h rfl ?_ | refine zi_imul h rfl ?_
          refine zi_iload_n h rfl rfl ?_
          first | refine zn_iadd h rfl ?_ | refine zi_iadd h rfl ?_
          refine za_z h rfl (by first | rfl | assumption) rfl (by omega) (by decide) ?_
          rw [e89]
          refine zb_ifeq h rfl (fun hc => ?_) (fun hc => ?_)
          · have c1 := tw_nz0.mp hc
            rw [k_td, if_pos c1] at ih
            rw [c1, show tw_nz 0 = 0 from rfl]
            have r93 : tw_up z 89 (4 * c + i) 0 93 c = z 93 c := tw_off (by omega)
            have r65 : tw_up z 89 (4 * c + i) 0 65 = z 65 := by funext j; exact tw_off (by omega)
            have r64 : tw_up z 89 (4 * c + i) 0 64 = z 64 := by funext j; exact tw_off (by omega)
            have r92 : tw_up z 89 (4 * c + i) 0 92 c = z 92 c := tw_off (by omega)
            have fin : ∀ x : Int32, x = p_ite (¬ z 93 c = 0 ∧ ¬ p_lost (z 65) (4 * s + i)) 1 0 → X 162 [some (tw_R 61), some (tw_I (nI c)), some (tw_I (nI s)), some (tw_I (nI i)), some (tw_I (nI (4 * s + i)))] [] tx_L0 (tw_up (tw_up z 89 (4 * c + i) 0) 93 c x) := by
              intro x hx
              have s65 : tw_up (tw_up z 89 (4 * c + i) 0) 93 c x 65 = z 65 := by funext j; rw [tw_off (by omega), tw_off (by omega)]
              have s64 : tw_up (tw_up z 89 (4 * c + i) 0) 93 c x 64 = z 64 := by funext j; rw [tw_off (by omega), tw_off (by omega)]
              have s92 : tw_up (tw_up z 89 (4 * c + i) 0) 93 c x 92 c = z 92 c := by rw [tw_off (by omega), tw_off (by omega)]
              rw [← hx] at ih
              refine zi_aload_n h rfl rfl ?_
              refine zg_ref h rfl (by first | rfl | assumption) (by decide) rfl rfl ?_
              refine zi_iload_n h rfl rfl ?_
              refine zi_dup2 h rfl rfl rfl ?_
              refine za_i h rfl (by first | rfl | assumption) rfl (by omega) (by decide) ?_
              rw [s92]
              refine zi_aload_n h rfl rfl ?_
              refine zi_iload h rfl rfl ?_
              refine zk_V h [_] rfl (by first | rfl | assumption) rfl rfl (Nat.le_of_ble_eq_true rfl) (s_k_what (by omega) ?_)
              rw [s65, s64]
              refine zi_ixor h rfl ?_
              refine zs_i h rfl (by first | rfl | assumption) rfl (by omega) (by decide) ?_
              first | refine zn_iinc h 1 rfl rfl rfl ?_ | refine zi_iinc h rfl rfl ?_
              refine zi_goto h rfl ?_
              exact ih _
            refine zi_aload_n h rfl rfl ?_
            refine zg_ref h rfl (by first | rfl | assumption) (by decide) rfl rfl ?_
            refine zi_iload_n h rfl rfl ?_
            refine zi_aload_n h rfl rfl ?_
            refine zg_ref h rfl (by first | rfl | assumption) (by decide) rfl rfl ?_
            refine zi_iload_n h rfl rfl ?_
            refine za_z h rfl (by first | rfl | assumption) rfl (by omega) (by decide) ?_
            rw [r93]
            refine zb_ifeq h rfl (fun hc => ?_) (fun hc => ?_)
            · refine zn_iconst h 0 rfl rfl ?_
              refine zs_z h rfl (by first | rfl | assumption) rfl (by omega) (by decide) (by first | exact Or.inl rfl | exact Or.inr rfl | exact tw_nz_01 _ | assumption) ?_
              exact fin 0 (p_ite_f (fun u => u.1 hc)).symm
            · have c2 := hc
              refine zi_aload_n h rfl rfl ?_
              refine zi_iload h rfl rfl ?_
              refine zk_V h [_] rfl (by first | rfl | assumption) rfl rfl (Nat.le_of_ble_eq_true rfl) (s_k_isLost (by omega) (fun u => ?_) (fun u => ?_))
              · rw [r65] at u
                first | refine zb_ifne h rfl (fun hc => ?_) (fun hc => ?_) | refine zc_ifne h rfl (fun hc => ?_) (fun hc => ?_)
                · refine zn_iconst h 0 rfl rfl ?_
                  refine zs_z h rfl (by first | rfl | assumption) rfl (by omega) (by decide) (by first | exact Or.inl rfl | exact Or.inr rfl | exact tw_nz_01 _ | assumption) ?_
                  exact fin 0 (p_ite_f (fun w => w.2 u)).symm
                · exact absurd hc (by decide)
              · rw [r65] at u
                first | refine zb_ifne h rfl (fun hc => ?_) (fun hc => ?_) | refine zc_ifne h rfl (fun hc => ?_) (fun hc => ?_)
                · exact absurd rfl hc
                · refine zn_iconst h 1 rfl rfl ?_
                  refine zi_goto h rfl ?_
                  refine zs_z h rfl (by first | rfl | assumption) rfl (by omega) (by decide) (by first | exact Or.inl rfl | exact Or.inr rfl | exact tw_nz_01 _ | assumption) ?_
                  exact fin 1 (p_ite_t ⟨c2, u⟩).symm
          · have c1 : ¬ z 73 (32 * c + (4 * s + i)) = 0 := fun u => hc (tw_nz0.mpr u)
            rw [k_td, if_neg c1] at ih
            rw [tw_nz_t c1]
            have r71 : tw_up z 89 (4 * c + i) 1 71 (32 * c + (4 * s + i)) = z 71 (32 * c + (4 * s + i)) := tw_off (by omega)
            have r72 : ∀ x, tw_up (tw_up z 89 (4 * c + i) 1) 90 (4 * c + i) x 72 (32 * c + (4 * s + i)) = z 72 (32 * c + (4 * s + i)) := fun x => by rw [tw_off (by omega), tw_off (by omega)]
            have r92 : ∀ x y, tw_up (tw_up (tw_up z 89 (4 * c + i) 1) 90 (4 * c + i) x) 91 (4 * c + i) y 92 c = z 92 c := fun x y => by rw [tw_off (by omega), tw_off (by omega), tw_off (by omega)]
            have r71b : ∀ x y, tw_up (tw_up (tw_up z 89 (4 * c + i) 1) 90 (4 * c + i) x) 91 (4 * c + i) y 71 (32 * c + (4 * s + i)) = z 71 (32 * c + (4 * s + i)) := fun x y => by rw [tw_off (by omega), tw_off (by omega), tw_off (by omega)]
            refine zi_aload_n h rfl rfl ?_
            refine zg_ref h rfl (by first | rfl | assumption) (by decide) rfl rfl ?_
            refine zn_iconst h 4 rfl rfl ?_
            refine zi_iload_n h rfl rfl ?_
            first | refine zn_imul h rfl ?_ | refine zi_imul h rfl ?_
            refine zi_iload_n h rfl rfl ?_
            first | refine zn_iadd h rfl ?_ | refine zi_iadd h rfl ?_
            refine zi_aload_n h rfl rfl ?_
            refine zg_ref h rfl (by first | rfl | assumption) (by decide) rfl rfl ?_
            refine zn_bipush h 32 rfl rfl ?_
            show X 108 _ _ _ _
            refine zi_iload_n h rfl rfl ?_
            first | refine zn_imul h rfl ?_ | refine zi_imul h rfl ?_
            refine zi_iload h rfl rfl ?_
            first | refine zn_iadd h rfl ?_ | refine zi_iadd h rfl ?_
            refine za_i h rfl (by first | rfl | assumption) rfl (by omega) (by decide) ?_
            rw [r71]
            refine zs_i h rfl (by first | rfl | assumption) rfl (by omega) (by decide) ?_
            refine zi_aload_n h rfl rfl ?_
            refine zg_ref h rfl (by first | rfl | assumption) (by decide) rfl rfl ?_
            refine zn_iconst h 4 rfl rfl ?_
            refine zi_iload_n h rfl rfl ?_
            first | refine zn_imul h rfl ?_ | refine zi_imul h rfl ?_
            refine zi_iload_n h rfl rfl ?_
            first | refine zn_iadd h rfl ?_ | refine zi_iadd h rfl ?_
            refine zi_aload_n h rfl rfl ?_
            refine zg_ref h rfl (by first | rfl | assumption) (by decide) rfl rfl ?_
            show X 123 _ _ _ _
            refine zn_bipush h 32 rfl rfl ?_
            refine zi_iload_n h rfl rfl ?_
            first | refine zn_imul h rfl ?_ | refine zi_imul h rfl ?_
            refine zi_iload h rfl rfl ?_
            first | refine zn_iadd h rfl ?_ | refine zi_iadd h rfl ?_
            refine za_i h rfl (by first | rfl | assumption) rfl (by omega) (by decide) ?_
            rw [r72]
            refine zs_i h rfl (by first | rfl | assumption) rfl (by omega) (by decide) ?_
            refine zi_aload_n h rfl rfl ?_
            refine zg_ref h rfl (by first | rfl | assumption) (by decide) rfl rfl ?_
            refine zi_iload_n h rfl rfl ?_
            refine zi_dup2 h rfl rfl rfl ?_
            refine za_i h rfl (by first | rfl | assumption) rfl (by omega) (by decide) ?_
            rw [r92]
            refine zi_aload_n h rfl rfl ?_
            refine zg_ref h rfl (by first | rfl | assumption) (by decide) rfl rfl ?_
            refine zn_bipush h 32 rfl rfl ?_
            refine zi_iload_n h rfl rfl ?_
            first | refine zn_imul h rfl ?_ | refine zi_imul h rfl ?_
            refine zi_iload h rfl rfl ?_
            first | refine zn_iadd h rfl ?_ | refine zi_iadd h rfl ?_
            refine za_i h rfl (by first | rfl | assumption) rfl (by omega) (by decide) ?_
            rw [r71b]
            refine zi_ixor h rfl ?_
            refine zs_i h rfl (by first | rfl | assumption) rfl (by omega) (by decide) ?_
            refine zi_goto h rfl ?_
            first | refine zn_iinc h 1 rfl rfl rfl ?_ | refine zi_iinc h rfl rfl ?_
            refine zi_goto h rfl ?_
            exact ih _
    have e88 : tw_up (tw_up (tw_up f 87 c (nI s)) 88 c (nI 0)) 77 (8 * c + s) (nI 1) 68 c = f 68 c := by rw [tw_off (by omega), tw_off (by omega), tw_off (by omega)]
    refine zi_aload_n h rfl rfl ?_
    refine zg_ref h rfl (by first | rfl | assumption) (by decide) rfl rfl ?_
    refine zi_iload_n h rfl rfl ?_
    refine zi_iload_n h rfl rfl ?_
    refine zs_i h rfl (by first | rfl | assumption) rfl (by omega) (by decide) ?_
    refine zi_aload_n h rfl rfl ?_
    refine zg_ref h rfl (by first | rfl | assumption) (by decide) rfl rfl ?_
    refine zi_iload_n h rfl rfl ?_
    refine zn_iconst h 0 rfl rfl ?_
    refine zs_i h rfl (by first | rfl | assumption) rfl (by omega) (by decide) ?_
    show X 30 _ _ _ _
    refine zi_aload_n h rfl rfl ?_
    refine zg_ref h rfl (by first | rfl | assumption) (by decide) rfl rfl ?_
    refine zn_bipush h 8 rfl rfl ?_
    refine zi_iload_n h rfl rfl ?_
    first | refine zn_imul h rfl ?_ | refine zi_imul h rfl ?_
    refine zi_iload_n h rfl rfl ?_
    first | refine zn_iadd h rfl ?_ | refine zi_iadd h rfl ?_
    refine zn_iconst h 1 rfl rfl ?_
    refine zs_z h rfl (by first | rfl | assumption) rfl (by omega) (by decide) (by first | exact Or.inl rfl | exact Or.inr rfl | exact tw_nz_01 _ | assumption) ?_
    refine zi_aload_n h rfl rfl ?_
    show X 40 _ _ _ _
    refine zg_ref h rfl (by first | rfl | assumption) (by decide) rfl rfl ?_
    refine zi_iload_n h rfl rfl ?_
    refine za_z h rfl (by first | rfl | assumption) rfl (by omega) (by decide) ?_
    rw [e88]
    refine tw_mem (g := k_bd0 f c s) (fun _ _ => rfl) ?_
    refine zb_ifeq h rfl (fun hc => ?_) (fun hc => ?_)
    · have l0 := loop 4 0 (by omega) none
      rw [show k_bd f c s 0 = tw_up (tw_up (if f 68 c = 0 then k_bd0 f c s else k_send (k_bd0 f c s) c 3 (nI s) 0 0 0) 92 c 0) 93 c 1 from rfl, if_pos hc] at l0
      refine zi_aload_n h rfl rfl ?_
      refine zg_ref h rfl (by first | rfl | assumption) (by decide) rfl rfl ?_
      refine zi_iload_n h rfl rfl ?_
      refine zn_iconst h 0 rfl rfl ?_
      refine zs_i h rfl (by first | rfl | assumption) rfl (by omega) (by decide) ?_
      refine zi_aload_n h rfl rfl ?_
      refine zg_ref h rfl (by first | rfl | assumption) (by decide) rfl rfl ?_
      refine zi_iload_n h rfl rfl ?_
      refine zn_iconst h 1 rfl rfl ?_
      refine zs_z h rfl (by first | rfl | assumption) rfl (by omega) (by decide) (by first | exact Or.inl rfl | exact Or.inr rfl | exact tw_nz_01 _ | assumption) ?_
      show X 62 _ _ _ _
      refine zn_iconst h 0 rfl rfl ?_
      refine zi_istore_n h rfl (Nat.le_of_ble_eq_true rfl) ?_
      exact l0
    · have l0 := loop 4 0 (by omega) none
      rw [show k_bd f c s 0 = tw_up (tw_up (if f 68 c = 0 then k_bd0 f c s else k_send (k_bd0 f c s) c 3 (nI s) 0 0 0) 92 c 0) 93 c 1 from rfl, if_neg hc] at l0
      obtain ⟨m, b1, b2⟩ := hb
      refine zi_aload_n h rfl rfl ?_
      refine zi_iload_n h rfl rfl ?_
      refine zn_iconst h 3 rfl rfl ?_
      refine zi_iload_n h rfl rfl ?_
      refine zn_iconst h 0 rfl rfl ?_
      refine zn_iconst h 0 rfl rfl ?_
      refine zn_iconst h 0 rfl rfl ?_
      refine zk_V h [_, _, _, _, _, _] rfl (by first | rfl | assumption) rfl rfl (Nat.le_of_ble_eq_true rfl) (s_k_send hcc (by unfold k_bd0; rw [tw_off (by omega), tw_off (by omega), tw_off (by omega)]; exact b1) b2 ?_)
      refine zi_aload_n h rfl rfl ?_
      refine zg_ref h rfl (by first | rfl | assumption) (by decide) rfl rfl ?_
      refine zi_iload_n h rfl rfl ?_
      refine zn_iconst h 0 rfl rfl ?_
      refine zs_i h rfl (by first | rfl | assumption) rfl (by omega) (by decide) ?_
      refine zi_aload_n h rfl rfl ?_
      refine zg_ref h rfl (by first | rfl | assumption) (by decide) rfl rfl ?_
      refine zi_iload_n h rfl rfl ?_
      refine zn_iconst h 1 rfl rfl ?_
      refine zs_z h rfl (by first | rfl | assumption) rfl (by omega) (by decide) (by first | exact Or.inl rfl | exact Or.inr rfl | exact tw_nz_01 _ | assumption) ?_
      show X 62 _ _ _ _
      refine zn_iconst h 0 rfl rfl ?_
      refine zi_istore_n h rfl (Nat.le_of_ble_eq_true rfl) ?_
      exact l0
  have loop0 : ∀ n i : Nat, i + n = 7 → X 4 [some (tw_R 61), some (tw_I (nI c)), some (tw_I (nI (p_ds (fun j => f 73 (32 * c + j)) i))), some (tw_I (nI (i + 1))), none] [] tx_L0 f := by
    intro n
    induction n with
    | zero =>
      intro i hi
      obtain rfl : i = 7 := by omega
      have hd := p_ds_le (fun j => f 73 (32 * c + j)) 7
      refine zi_iload_n h rfl rfl ?_
      refine zn_bipush h 8 rfl rfl ?_
      first | refine zn_icmpge h rfl (by omega) (by omega) (fun hc => ?_) (fun hc => ?_) | refine zc_icmpge h rfl (fun hc => ?_) (fun hc => ?_)
      · exact main _ (by omega) hP
      · omega
    | succ n ih =>
      intro i hi
      have ih := ih (i + 1) (by omega)
      have hb := p_ds_le (fun j => f 73 (32 * c + j)) i
      have hb1 := p_cnt_le (fun j => f 73 (32 * c + (p_ds (fun j => f 73 (32 * c + j)) i * 4 + j))) 4
      have hb2 := p_cnt_le (fun j => f 73 (32 * c + ((i + 1) * 4 + j))) 4
      refine zi_iload_n h rfl rfl ?_
      refine zn_bipush h 8 rfl rfl ?_
      first | refine zn_icmpge h rfl (by omega) (by omega) (fun hc => ?_) (fun hc => ?_) | refine zc_icmpge h rfl (fun hc => ?_) (fun hc => ?_)
      · omega
      · refine zi_aload_n h rfl rfl ?_
        refine zi_iload_n h rfl rfl ?_
        refine zi_iload_n h rfl rfl ?_
        refine zk_V h [_, _] rfl (by first | rfl | assumption) rfl rfl (Nat.le_of_ble_eq_true rfl) (s_k_dirtyIn hcc (by omega) ?_)
        refine zi_aload_n h rfl rfl ?_
        refine zi_iload_n h rfl rfl ?_
        refine zi_iload_n h rfl rfl ?_
        refine zk_V h [_, _] rfl (by first | rfl | assumption) rfl rfl (Nat.le_of_ble_eq_true rfl) (s_k_dirtyIn hcc (by omega) ?_)
        first | refine zn_icmple h rfl (by omega) (by omega) (fun hc => ?_) (fun hc => ?_) | refine zc_icmple h rfl (fun hc => ?_) (fun hc => ?_)
        · rw [show p_ds (fun j => f 73 (32 * c + j)) (i + 1) = p_ds (fun j => f 73 (32 * c + j)) i from if_neg (Nat.not_lt.mpr hc)] at ih
          first | refine zn_iinc h 1 rfl rfl rfl ?_ | refine zi_iinc h rfl rfl ?_
          refine zi_goto h rfl ?_
          exact ih
        · rw [show p_ds (fun j => f 73 (32 * c + j)) (i + 1) = i + 1 from if_pos hc] at ih
          refine zi_iload_n h rfl rfl ?_
          refine zi_istore_n h rfl (Nat.le_of_ble_eq_true rfl) ?_
          first | refine zn_iinc h 1 rfl rfl rfl ?_ | refine zi_iinc h rfl rfl ?_
          refine zi_goto h rfl ?_
          exact ih
  refine zn_iconst h 0 rfl rfl ?_
  refine zi_istore_n h rfl (Nat.le_of_ble_eq_true rfl) ?_
  refine zn_iconst h 1 rfl rfl ?_
  refine zi_istore_n h rfl (Nat.le_of_ble_eq_true rfl) ?_
  exact loop0 7 0 (by omega)
def k_beat (f : tw_S) (c : Nat) : tw_S := if f 95 c + 1 = 4 then tw_up (tw_up (k_send f c 5 0 0 0 0) 95 c (f 95 c + 1)) 68 c 0 else tw_up (k_send f c 5 0 0 0 0) 95 c (f 95 c + 1)
def k_sip (f : tw_S) (c : Nat) (k a b : Int32) : tw_S := if f 68 c = 0 then f else k_send f c k a b 0 0
set_option maxRecDepth 20000 in
theorem s_m_step_x {fl : Bool} {d : Nat} {f : tw_S} {P : tw_S → Option tw_A → Prop} {x : Int32} {g : tw_S} (hg : tw_up f 61 0 0 = g) (hx : x < 0 ∨ nI 2 ≤ x) (hP : P g (some (tw_I (-1)))) : tS fl (d + 5) 138 [tw_R 61, tw_I x] f P := by
  subst hg
  refine tw_Sp_of rfl rfl (Nat.le_of_ble_eq_true rfl) (fun X h => ?_)
  refine zi_aload_n h rfl rfl ?_
  refine zn_iconst h 0 rfl rfl ?_
  refine zp_int h rfl (by first | rfl | assumption) (by decide) rfl ?_
  refine zi_iload_n h rfl rfl ?_
  refine zi_istore_n h rfl (Nat.le_of_ble_eq_true rfl) ?_
  refine zi_iload_n h rfl rfl ?_
  refine zn_iconst h 0 rfl rfl ?_
  refine zn_iconst h 1 rfl rfl ?_
  refine zk_S h [_, _, _] rfl rfl rfl (Nat.le_of_ble_eq_true rfl) (s_k_in0 (by omega) hx ?_)
  first | refine zb_ifne h rfl (fun hc => ?_) (fun hc => ?_) | refine zc_ifne h rfl (fun hc => ?_) (fun hc => ?_)
  · exact absurd rfl hc
  · refine zi_iconst h rfl ?_
    refine zi_iret h rfl ?_
    exact hP
set_option maxRecDepth 20000 in
theorem s_m_step_c {fl : Bool} {d : Nat} {f : tw_S} {P : tw_S → Option tw_A → Prop} {c : Nat} {g : tw_S} (hg : tw_up f 61 0 0 = g) (hc : c < 2) (hb : k_box g c)
    (h0 : g 66 c = 0 → P g (some (tw_I 0)))
    (h1 : ¬ g 66 c = 0 → ¬ g 80 c < 0 → tS fl (d + 4) 128 [tw_R 61, tw_I (nI c)] g (fun f2 r => r = none ∧ P f2 (some (tw_I 1))))
    (h2 : ¬ g 66 c = 0 → g 80 c < 0 → ¬ g 84 c = 0 → tS fl (d + 4) 129 [tw_R 61, tw_I (nI c)] g (fun f2 r => r = none ∧ P f2 (some (tw_I 2))))
    (h3 : ¬ g 66 c = 0 → g 80 c < 0 → g 84 c = 0 → p_ft (fun s => g 79 (8 * c + s)) 8 0 < 8 → tS fl (d + 4) 132 [tw_R 61, tw_I (nI c)] g (fun f2 r => r = none ∧ P f2 (some (tw_I 3))))
    (h4 : ¬ g 66 c = 0 → g 80 c < 0 → g 84 c = 0 → ¬ p_ft (fun s => g 79 (8 * c + s)) 8 0 < 8 → ¬ g 87 c < 0 → tS fl (d + 4) 133 [tw_R 61, tw_I (nI c)] g (fun f2 r => r = none ∧ P f2 (some (tw_I 4))))
    (h5 : ¬ g 66 c = 0 → g 80 c < 0 → g 84 c = 0 → ¬ p_ft (fun s => g 79 (8 * c + s)) 8 0 < 8 → g 87 c < 0 → (¬ g 94 c = 0 ∨ g 68 c = 0) → 0 < p_cd (fun j => g 73 (32 * c + j)) 8 → tS fl (d + 4) 136 [tw_R 61, tw_I (nI c)] g (fun f2 r => r = none ∧ P f2 (some (tw_I 5))))
    (h6 : ¬ g 66 c = 0 → g 80 c < 0 → g 84 c = 0 → ¬ p_ft (fun s => g 79 (8 * c + s)) 8 0 < 8 → g 87 c < 0 → ¬ ((¬ g 94 c = 0 ∨ g 68 c = 0) ∧ 0 < p_cd (fun j => g 73 (32 * c + j)) 8) → p_ft (k_ln g c) 8 0 < 8 → P (k_sip (tw_up g 77 (8 * c + p_ft (k_ln g c) 8 0) 0) c 4 (nI (p_ft (k_ln g c) 8 0)) 0) (some (tw_I 6)))
    (h7 : ¬ g 66 c = 0 → g 80 c < 0 → g 84 c = 0 → ¬ p_ft (fun s => g 79 (8 * c + s)) 8 0 < 8 → g 87 c < 0 → ¬ ((¬ g 94 c = 0 ∨ g 68 c = 0) ∧ 0 < p_cd (fun j => g 73 (32 * c + j)) 8) → ¬ p_ft (k_ln g c) 8 0 < 8 → ¬ g 94 c = 0 → P (tw_up g 94 c 0) (some (tw_I 7)))
    (h8 : ¬ g 66 c = 0 → g 80 c < 0 → g 84 c = 0 → ¬ p_ft (fun s => g 79 (8 * c + s)) 8 0 < 8 → g 87 c < 0 → ¬ ((¬ g 94 c = 0 ∨ g 68 c = 0) ∧ 0 < p_cd (fun j => g 73 (32 * c + j)) 8) → ¬ p_ft (k_ln g c) 8 0 < 8 → g 94 c = 0 → ¬ g 68 c = 0 → P (k_beat g c) (some (tw_I 8)))
    (h9 : ¬ g 66 c = 0 → g 80 c < 0 → g 84 c = 0 → ¬ p_ft (fun s => g 79 (8 * c + s)) 8 0 < 8 → g 87 c < 0 → ¬ ((¬ g 94 c = 0 ∨ g 68 c = 0) ∧ 0 < p_cd (fun j => g 73 (32 * c + j)) 8) → ¬ p_ft (k_ln g c) 8 0 < 8 → g 94 c = 0 → g 68 c = 0 → P g (some (tw_I 9))) : tS fl (d + 5) 138 [tw_R 61, tw_I (nI c)] f P := by
  have hcc := hc
  have hcd := p_cd_le (fun j => g 73 (32 * c + j)) 8
  refine tw_Sp_of rfl rfl (Nat.le_of_ble_eq_true rfl) (fun X h => ?_)
  refine zi_aload_n h rfl rfl ?_
  refine zn_iconst h 0 rfl rfl ?_
  refine zp_int h rfl (by first | rfl | assumption) (by decide) rfl ?_
  refine tw_mem (g := g) (fun q j => by rw [← hg]; rfl) ?_
  refine zi_iload_n h rfl rfl ?_
  refine zi_istore_n h rfl (Nat.le_of_ble_eq_true rfl) ?_
  refine zi_iload_n h rfl rfl ?_
  refine zn_iconst h 0 rfl rfl ?_
  refine zn_iconst h 1 rfl rfl ?_
  refine zk_S h [_, _, _] rfl rfl rfl (Nat.le_of_ble_eq_true rfl) (s_k_in1 (by omega) (by omega) ?_)
  first | refine zb_ifne h rfl (fun hc => ?_) (fun hc => ?_) | refine zc_ifne h rfl (fun hc => ?_) (fun hc => ?_)
  · refine zi_aload_n h rfl rfl ?_
    refine zg_ref h rfl (by first | rfl | assumption) (by decide) rfl rfl ?_
    refine zi_iload_n h rfl rfl ?_
    refine za_z h rfl (by first | rfl | assumption) rfl (by omega) (by decide) ?_
    first | refine zb_ifne h rfl (fun hc => ?_) (fun hc => ?_) | refine zc_ifne h rfl (fun hc => ?_) (fun hc => ?_)
    · have c0 := hc
      refine zi_aload_n h rfl rfl ?_
      refine zg_ref h rfl (by first | rfl | assumption) (by decide) rfl rfl ?_
      refine zi_iload_n h rfl rfl ?_
      refine za_i h rfl (by first | rfl | assumption) rfl (by omega) (by decide) ?_
      refine zc_iflt h rfl (fun hc => ?_) (fun hc => ?_)
      · have c1 := hc
        refine zi_aload_n h rfl rfl ?_
        refine zg_ref h rfl (by first | rfl | assumption) (by decide) rfl rfl ?_
        refine zi_iload_n h rfl rfl ?_
        refine za_z h rfl (by first | rfl | assumption) rfl (by omega) (by decide) ?_
        first | refine zb_ifeq h rfl (fun hc => ?_) (fun hc => ?_) | refine zc_ifeq h rfl (fun hc => ?_) (fun hc => ?_)
        · have c2 := hc
          have two : ¬ p_ft (fun s => g 79 (8 * c + s)) 8 0 < 8 → g 87 c < 0 → ¬ ((¬ g 94 c = 0 ∨ g 68 c = 0) ∧ 0 < p_cd (fun j => g 73 (32 * c + j)) 8) → X 79 [some (tw_R 61), some (tw_I (nI c)), some (tw_I (nI c)), none] [] tx_L0 g := by
            intro c3 c4 c5
            refine zi_aload_n h rfl rfl ?_
            refine zi_iload_n h rfl rfl ?_
            refine zk_V h [_] rfl (by first | rfl | assumption) rfl rfl (Nat.le_of_ble_eq_true rfl) (s_k_lowestNote hcc (fun u => ?_) (fun u => ?_))
            · have h6 := h6 c0 c1 c2 c3 c4 c5 u
              show X 82 _ [tw_I (nI (p_ft (k_ln g c) 8 0))] _ _
              generalize p_ft (k_ln g c) 8 0 = s at u h6 ⊢
              have e68 : tw_up g 77 (8 * c + s) 0 68 c = g 68 c := tw_off (by omega)
              refine zi_istore_n h rfl (Nat.le_of_ble_eq_true rfl) ?_
              refine zi_iload_n h rfl rfl ?_
              refine zc_iflt h rfl (fun hc => ?_) (fun hc => ?_)
              · exact absurd (nI_ge0 (n := s) (by omega)) (Int32.not_le.mpr hc)
              · refine zi_aload_n h rfl rfl ?_
                refine zg_ref h rfl (by first | rfl | assumption) (by decide) rfl rfl ?_
                refine zn_bipush h 8 rfl rfl ?_
                refine zi_iload_n h rfl rfl ?_
                first | refine zn_imul h rfl ?_ | refine zi_imul h rfl ?_
                refine zi_iload_n h rfl rfl ?_
                first | refine zn_iadd h rfl ?_ | refine zi_iadd h rfl ?_
                refine zn_iconst h 0 rfl rfl ?_
                refine zs_z h rfl (by first | rfl | assumption) rfl (by omega) (by decide) (by first | exact Or.inl rfl | exact Or.inr rfl | exact tw_nz_01 _ | assumption) ?_
                refine tw_mem (g := tw_up g 77 (8 * c + s) 0) (fun _ _ => rfl) ?_
                refine zi_aload_n h rfl rfl ?_
                refine zg_ref h rfl (by first | rfl | assumption) (by decide) rfl rfl ?_
                refine zi_iload_n h rfl rfl ?_
                refine za_z h rfl (by first | rfl | assumption) rfl (by omega) (by decide) ?_
                rw [e68]
                refine zb_ifeq h rfl (fun hc => ?_) (fun hc => ?_)
                · rw [k_sip, e68, if_pos hc] at h6
                  refine zn_bipush h 6 rfl rfl ?_
                  refine zi_iret h rfl ?_
                  exact h6
                · rw [k_sip, e68, if_neg hc] at h6
                  obtain ⟨m, b1, b2⟩ := hb
                  refine zi_aload_n h rfl rfl ?_
                  refine zi_iload_n h rfl rfl ?_
                  refine zn_iconst h 4 rfl rfl ?_
                  refine zi_iload_n h rfl rfl ?_
                  refine zn_iconst h 0 rfl rfl ?_
                  refine zn_iconst h 0 rfl rfl ?_
                  refine zn_iconst h 0 rfl rfl ?_
                  refine zk_V h [_, _, _, _, _, _] rfl (by first | rfl | assumption) rfl rfl (Nat.le_of_ble_eq_true rfl) (s_k_send hcc (by rw [tw_off (by omega)]; exact b1) b2 ?_)
                  refine zn_bipush h 6 rfl rfl ?_
                  refine zi_iret h rfl ?_
                  exact h6
            · show X 82 _ [tw_I (-1)] _ _
              refine zi_istore_n h rfl (Nat.le_of_ble_eq_true rfl) ?_
              refine zi_iload_n h rfl rfl ?_
              refine zc_iflt h rfl (fun hc => ?_) (fun hc => ?_)
              · refine zi_aload_n h rfl rfl ?_
                refine zg_ref h rfl (by first | rfl | assumption) (by decide) rfl rfl ?_
                refine zi_iload_n h rfl rfl ?_
                refine za_z h rfl (by first | rfl | assumption) rfl (by omega) (by decide) ?_
                first | refine zb_ifeq h rfl (fun hc => ?_) (fun hc => ?_) | refine zc_ifeq h rfl (fun hc => ?_) (fun hc => ?_)
                · have c7 := hc
                  refine zi_aload_n h rfl rfl ?_
                  refine zg_ref h rfl (by first | rfl | assumption) (by decide) rfl rfl ?_
                  refine zi_iload_n h rfl rfl ?_
                  refine za_z h rfl (by first | rfl | assumption) rfl (by omega) (by decide) ?_
                  first | refine zb_ifeq h rfl (fun hc => ?_) (fun hc => ?_) | refine zc_ifeq h rfl (fun hc => ?_) (fun hc => ?_)
                  · refine zn_bipush h 9 rfl rfl ?_
                    refine zi_iret h rfl ?_
                    exact h9 c0 c1 c2 c3 c4 c5 u c7 hc
                  · have h8 := h8 c0 c1 c2 c3 c4 c5 u c7 hc
                    obtain ⟨m, b1, b2⟩ := hb
                    have e95 : k_send g c 5 0 0 0 0 95 c = g 95 c := k_send_off (by omega)
                    have e95b : tw_up (k_send g c 5 0 0 0 0) 95 c (g 95 c + 1) 95 c = g 95 c + 1 := by simp [tw_up]
                    refine zi_aload_n h rfl rfl ?_
                    refine zi_iload_n h rfl rfl ?_
                    refine zn_iconst h 5 rfl rfl ?_
                    refine zn_iconst h 0 rfl rfl ?_
                    refine zn_iconst h 0 rfl rfl ?_
                    refine zn_iconst h 0 rfl rfl ?_
                    refine zn_iconst h 0 rfl rfl ?_
                    refine zk_V h [_, _, _, _, _, _] rfl (by first | rfl | assumption) rfl rfl (Nat.le_of_ble_eq_true rfl) (s_k_send hcc b1 b2 ?_)
                    refine tw_mem (g := k_send g c 5 0 0 0 0) (fun _ _ => rfl) ?_
                    refine zi_aload_n h rfl rfl ?_
                    refine zg_ref h rfl (by first | rfl | assumption) (by decide) rfl rfl ?_
                    refine zi_iload_n h rfl rfl ?_
                    refine zi_dup2 h rfl rfl rfl ?_
                    refine za_i h rfl (by first | rfl | assumption) rfl (by omega) (by decide) ?_
                    rw [e95]
                    refine zn_iconst h 1 rfl rfl ?_
                    first | refine zn_iadd h rfl ?_ | refine zi_iadd h rfl ?_
                    refine zs_i h rfl (by first | rfl | assumption) rfl (by omega) (by decide) ?_
                    refine tw_mem (g := tw_up (k_send g c 5 0 0 0 0) 95 c (g 95 c + 1)) (fun _ _ => rfl) ?_
                    refine zi_aload_n h rfl rfl ?_
                    refine zg_ref h rfl (by first | rfl | assumption) (by decide) rfl rfl ?_
                    refine zi_iload_n h rfl rfl ?_
                    refine za_i h rfl (by first | rfl | assumption) rfl (by omega) (by decide) ?_
                    rw [e95b]
                    refine zn_iconst h 4 rfl rfl ?_
                    refine zc_icmpne h rfl (fun hc => ?_) (fun hc => ?_)
                    · have hc : ¬ g 95 c + 1 = 4 := hc
                      rw [k_beat, if_neg hc] at h8
                      refine zn_bipush h 8 rfl rfl ?_
                      refine zi_iret h rfl ?_
                      exact h8
                    · have hc : g 95 c + 1 = 4 := hc
                      rw [k_beat, if_pos hc] at h8
                      refine zi_aload_n h rfl rfl ?_
                      refine zg_ref h rfl (by first | rfl | assumption) (by decide) rfl rfl ?_
                      refine zi_iload_n h rfl rfl ?_
                      refine zn_iconst h 0 rfl rfl ?_
                      refine zs_z h rfl (by first | rfl | assumption) rfl (by omega) (by decide) (by first | exact Or.inl rfl | exact Or.inr rfl | exact tw_nz_01 _ | assumption) ?_
                      refine zn_bipush h 8 rfl rfl ?_
                      refine zi_iret h rfl ?_
                      exact h8
                · refine zi_aload_n h rfl rfl ?_
                  refine zg_ref h rfl (by first | rfl | assumption) (by decide) rfl rfl ?_
                  refine zi_iload_n h rfl rfl ?_
                  refine zn_iconst h 0 rfl rfl ?_
                  refine zs_z h rfl (by first | rfl | assumption) rfl (by omega) (by decide) (by first | exact Or.inl rfl | exact Or.inr rfl | exact tw_nz_01 _ | assumption) ?_
                  refine zn_bipush h 7 rfl rfl ?_
                  refine zi_iret h rfl ?_
                  exact h7 c0 c1 c2 c3 c4 c5 u hc
              · exact absurd (show (-1 : Int32) < 0 by decide) hc
          have one : ¬ p_ft (fun s => g 79 (8 * c + s)) 8 0 < 8 → X 50 [some (tw_R 61), some (tw_I (nI c)), some (tw_I (nI c)), none] [] tx_L0 g := by
            intro c3
            refine zi_aload_n h rfl rfl ?_
            refine zg_ref h rfl (by first | rfl | assumption) (by decide) rfl rfl ?_
            refine zi_iload_n h rfl rfl ?_
            refine za_i h rfl (by first | rfl | assumption) rfl (by omega) (by decide) ?_
            refine zc_iflt h rfl (fun hc => ?_) (fun hc => ?_)
            · have c4 := hc
              have three : (¬ g 94 c = 0 ∨ g 68 c = 0) → X 70 [some (tw_R 61), some (tw_I (nI c)), some (tw_I (nI c)), none] [] tx_L0 g := by
                intro c5
                refine zi_aload_n h rfl rfl ?_
                refine zi_iload_n h rfl rfl ?_
                refine zk_V h [_] rfl (by first | rfl | assumption) rfl rfl (Nat.le_of_ble_eq_true rfl) (s_k_dirtyAll hcc ?_)
                show X 73 _ [tw_I (nI (p_cd (fun j => g 73 (32 * c + j)) 8))] _ _
                refine zc_ifle h rfl (fun hc => ?_) (fun hc => ?_)
                · have := (nI_leI (b := 0) (by omega) (by omega)).mp hc
                  exact two c3 c4 (fun u => by omega)
                · have : 0 < p_cd (fun j => g 73 (32 * c + j)) 8 := by
                    rcases Nat.eq_zero_or_pos (p_cd (fun j => g 73 (32 * c + j)) 8) with u | u
                    · rw [u] at hc
                      exact absurd (show nI 0 ≤ 0 by decide) hc
                    · exact u
                  refine zi_aload_n h rfl rfl ?_
                  refine zi_iload_n h rfl rfl ?_
                  refine zk_V h [_] rfl (by first | rfl | assumption) rfl rfl (Nat.le_of_ble_eq_true rfl) (tw_Sp_mono (h5 c0 c1 c2 c3 c4 c5 this) (fun f2 r k => ?_))
                  obtain ⟨rfl, k⟩ := k
                  refine zn_iconst h 5 rfl rfl ?_
                  refine zi_iret h rfl ?_
                  exact k
              refine zi_aload_n h rfl rfl ?_
              refine zg_ref h rfl (by first | rfl | assumption) (by decide) rfl rfl ?_
              refine zi_iload_n h rfl rfl ?_
              refine za_z h rfl (by first | rfl | assumption) rfl (by omega) (by decide) ?_
              first | refine zb_ifne h rfl (fun hc => ?_) (fun hc => ?_) | refine zc_ifne h rfl (fun hc => ?_) (fun hc => ?_)
              · exact three (Or.inl hc)
              · have c5 := hc
                refine zi_aload_n h rfl rfl ?_
                refine zg_ref h rfl (by first | rfl | assumption) (by decide) rfl rfl ?_
                refine zi_iload_n h rfl rfl ?_
                refine za_z h rfl (by first | rfl | assumption) rfl (by omega) (by decide) ?_
                first | refine zb_ifne h rfl (fun hc => ?_) (fun hc => ?_) | refine zc_ifne h rfl (fun hc => ?_) (fun hc => ?_)
                · exact two c3 c4 (fun u => u.1.elim (fun v => v c5) hc)
                · exact three (Or.inr hc)
            · refine zi_aload_n h rfl rfl ?_
              refine zi_iload_n h rfl rfl ?_
              refine zk_V h [_] rfl (by first | rfl | assumption) rfl rfl (Nat.le_of_ble_eq_true rfl) (tw_Sp_mono (h4 c0 c1 c2 c3 hc) (fun f2 r k => ?_))
              obtain ⟨rfl, k⟩ := k
              refine zn_iconst h 4 rfl rfl ?_
              refine zi_iret h rfl ?_
              exact k
          refine zi_aload_n h rfl rfl ?_
          refine zi_aload_n h rfl rfl ?_
          refine zg_ref h rfl (by first | rfl | assumption) (by decide) rfl rfl ?_
          refine zi_iload_n h rfl rfl ?_
          refine zk_V h [_, _] rfl (by first | rfl | assumption) rfl rfl (Nat.le_of_ble_eq_true rfl) (s_k_lowest hcc (Or.inr (Or.inr rfl)) (fun u => ?_) (fun u => ?_))
          · show X 44 _ [tw_I (nI (p_ft (fun s => g 79 (8 * c + s)) 8 0))] _ _
            refine zc_iflt h rfl (fun hc => ?_) (fun hc => ?_)
            · exact absurd (nI_ge0 (n := p_ft (fun s => g 79 (8 * c + s)) 8 0) (by omega)) (Int32.not_le.mpr hc)
            · refine zi_aload_n h rfl rfl ?_
              refine zi_iload_n h rfl rfl ?_
              refine zk_V h [_] rfl (by first | rfl | assumption) rfl rfl (Nat.le_of_ble_eq_true rfl) (tw_Sp_mono (h3 c0 c1 c2 u) (fun f2 r k => ?_))
              obtain ⟨rfl, k⟩ := k
              refine zn_iconst h 3 rfl rfl ?_
              refine zi_iret h rfl ?_
              exact k
          · show X 44 _ [tw_I (-1)] _ _
            refine zc_iflt h rfl (fun hc => ?_) (fun hc => ?_)
            · exact one u
            · exact absurd (show (-1 : Int32) < 0 by decide) hc
        · refine zi_aload_n h rfl rfl ?_
          refine zi_iload_n h rfl rfl ?_
          refine zk_V h [_] rfl (by first | rfl | assumption) rfl rfl (Nat.le_of_ble_eq_true rfl) (tw_Sp_mono (h2 c0 c1 hc) (fun f2 r k => ?_))
          obtain ⟨rfl, k⟩ := k
          refine zn_iconst h 2 rfl rfl ?_
          refine zi_iret h rfl ?_
          exact k
      · refine zi_aload_n h rfl rfl ?_
        refine zi_iload_n h rfl rfl ?_
        refine zk_V h [_] rfl (by first | rfl | assumption) rfl rfl (Nat.le_of_ble_eq_true rfl) (tw_Sp_mono (h1 c0 hc) (fun f2 r k => ?_))
        obtain ⟨rfl, k⟩ := k
        refine zn_iconst h 1 rfl rfl ?_
        refine zi_iret h rfl ?_
        exact k
    · refine zn_iconst h 0 rfl rfl ?_
      refine zi_iret h rfl ?_
      exact h0 hc
  · exact absurd hc (by decide)
