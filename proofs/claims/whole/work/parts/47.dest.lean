/-! TwinArray's own: destaging, steps. -/
set_option maxRecDepth 20000 in
theorem s_releaseTaken {fl : Bool} {d : Nat} {f : tw_S} {P : tw_S → Option tw_A → Prop} {q tm k : Nat} {w : Int32} (hq : q = 17 ∨ q = 39) (hn : f q 0 = if q = 17 then 0 else 1) (hb : p_box f (56 - q)) (ht : f 6 5 = nI tm) (ht2 : tm ≤ 200) (hk : k < 32) (hP : P (p_rel f q k w) none) : tS fl (d + 4) 75 [tw_R 0, tw_R q, tw_I (nI k), tw_I w] f P := by
  have lc := tx_ctl hq
  obtain ⟨a0, a1, a2, a3, a4⟩ := tx_ent (tx_c1 hq)
  obtain ⟨m0, m1, m2, m3, m4⟩ := tx_ent (tx_c6 hq)
  obtain ⟨i0, i1, i2, i3, i4, i5⟩ := tx_inb (tx_c11 hq)
  obtain ⟨d0, d1, d2, d3⟩ := tx_des (tx_c17 hq)
  have w0 := tx_dwr (tx_c21 hq)
  have et : (f 6 5).toNatClampNeg = tm := by rw [ht]; exact nI_clamp (by omega)
  have e7 : ∀ x : Int32, tw_up f (q + 3) k x q 7 = f q 7 := fun x => tw_off (by omega)
  have e6 : ∀ x : Int32, tw_up f (q + 3) k x 6 5 = f 6 5 := fun x => tw_off (by omega)
  have e0 : ∀ x : Int32, tw_up f (q + 3) k x q 0 = f q 0 := fun x => tw_off (by omega)
  have e9 : ∀ x : Int32, tw_up f (q + 3) k x 9 = f 9 := fun x => by funext j; exact tw_off (by omega)
  refine tw_Sp_of rfl rfl (Nat.le_of_ble_eq_true rfl) (fun X h => ?_)
  have tail : ∀ g : tw_S, g q 7 = f q 7 → g 6 5 = f 6 5 → g q 0 = f q 0 → (f q 7 = 0 → P (p_fin g (f q 0) (nI k) w) none) → (¬ f q 7 = 0 → P g none) → X 25 [some (tw_R 0), some (tw_R q), some (tw_I (nI k)), some (tw_I w)] [] tx_L0 g := by
    intro g g7 g6 g0 k1 k2
    refine zi_aload_n h rfl rfl ?_
    refine zg_boo h rfl (by first | rfl | assumption) (by decide) rfl ?_
    first | refine zb_ifne h rfl (fun hc => ?_) (fun hc => ?_) | refine zc_ifne h rfl (fun hc => ?_) (fun hc => ?_)
    · refine zi_vret h rfl ?_
      exact k2 (fun u => hc (g7.trans u))
    · have c1 := k1 (g7.symm.trans hc)
      refine zi_aload_n h rfl rfl ?_
      refine zg_ref h rfl (by first | rfl | assumption) (by decide) rfl rfl ?_
      refine zi_aload_n h rfl rfl ?_
      refine zg_int h rfl (by first | rfl | assumption) (by decide) rfl ?_
      refine zi_iload_n h rfl rfl ?_
      refine zi_iload_n h rfl rfl ?_
      refine zk_V h [_, _, _] rfl (by first | rfl | assumption) rfl rfl (Nat.le_of_ble_eq_true rfl) (s_finishWrites (by rw [g6]; exact ht) ht2 ?_)
      refine zi_vret h rfl ?_
      rw [g0]
      unfold p_fin at c1
      rw [g6, et] at c1
      exact c1
  refine zi_aload_n h rfl rfl ?_
  refine zg_ref h rfl (by first | rfl | assumption) (by decide) rfl rfl ?_
  refine zg_ref h rfl (by first | rfl | assumption) (by decide) rfl rfl ?_
  refine zi_iload_n h rfl rfl ?_
  refine za_z h rfl (by first | rfl | assumption) rfl (by omega) (by decide) ?_
  first | refine zb_ifeq h rfl (fun hc => ?_) (fun hc => ?_) | refine zc_ifeq h rfl (fun hc => ?_) (fun hc => ?_)
  · have c1 : ¬ (¬ f (q + 2) k = 0 ∧ f (q + 5) k = w) := fun u => u.1 hc
    refine tail f rfl rfl rfl (fun u => ?_) (fun u => ?_)
    · rw [p_rel, if_pos u, if_neg c1] at hP
      exact hP
    · rw [p_rel, if_neg u, if_neg c1] at hP
      exact hP
  · have c0 := hc
    refine zi_aload_n h rfl rfl ?_
    refine zg_ref h rfl (by first | rfl | assumption) (by decide) rfl rfl ?_
    refine zg_ref h rfl (by first | rfl | assumption) (by decide) rfl rfl ?_
    refine zi_iload_n h rfl rfl ?_
    refine za_i h rfl (by first | rfl | assumption) rfl (by omega) (by decide) ?_
    refine zi_iload_n h rfl rfl ?_
    refine zc_icmpne h rfl (fun hc => ?_) (fun hc => ?_)
    · have c1 : ¬ (¬ f (q + 2) k = 0 ∧ f (q + 5) k = w) := fun u => hc u.2
      refine tail f rfl rfl rfl (fun u => ?_) (fun u => ?_)
      · rw [p_rel, if_pos u, if_neg c1] at hP
        exact hP
      · rw [p_rel, if_neg u, if_neg c1] at hP
        exact hP
    · have c1 : ¬ f (q + 2) k = 0 ∧ f (q + 5) k = w := ⟨c0, hc⟩
      refine zi_aload_n h rfl rfl ?_
      refine zg_ref h rfl (by first | rfl | assumption) (by decide) rfl rfl ?_
      refine zg_ref h rfl (by first | rfl | assumption) (by decide) rfl rfl ?_
      refine zi_iload_n h rfl rfl ?_
      refine zn_iconst h 0 rfl rfl ?_
      refine zs_z h rfl (by first | rfl | assumption) rfl (by omega) (by decide) (by first | exact Or.inl rfl | exact Or.inr rfl | assumption) ?_
      refine zi_aload_n h rfl rfl ?_
      refine zi_aload_n h rfl rfl ?_
      refine zn_iconst h 2 rfl rfl ?_
      refine zi_iload_n h rfl rfl ?_
      show X 23 _ _ _ _
      refine zi_iload_n h rfl rfl ?_
      refine zk_V h [_, _, _, _] rfl (by first | rfl | assumption) rfl rfl (Nat.le_of_ble_eq_true rfl) (s_sendIfPaired hq ((e0 _).trans hn) (p_box_up (by omega) hb) ?_)
      by_cases c7 : f q 7 = 0
      · rw [p_rel, if_pos c7, if_pos c1] at hP
        rw [p_sip, if_pos ((e7 _).trans c7)]
        exact tail _ (e7 _) (e6 _) (e0 _) (fun _ => hP) (fun u => absurd c7 u)
      · rw [p_rel, if_neg c7, if_pos c1] at hP
        rw [p_sip, if_neg (fun u => c7 ((e7 _).symm.trans u))]
        refine tail _ ?_ ?_ ?_ (fun u => absurd u c7) (fun _ => hP)
        · rw [p_send_off (by omega)]; exact e7 _
        · rw [p_send_off (by omega)]; exact e6 _
        · rw [p_send_off (by omega)]; exact e0 _
set_option maxRecDepth 20000 in
theorem s_finishDestaging {fl : Bool} {d : Nat} {f : tw_S} {P : tw_S → Option tw_A → Prop} {q tm s : Nat} (hq : q = 17 ∨ q = 39) (hn : f q 0 = if q = 17 then 0 else 1) (hb : p_box f (56 - q)) (ht : f 6 5 = nI tm) (ht2 : tm ≤ 200) (hs : f (q + 17) 3 = nI s) (hs2 : s < 8) (hP : P (tw_up (p_fd f q s 4) (q + 17) 3 (-1)) none) : tS fl (d + 5) 76 [tw_R 0, tw_R q] f P := by
  have lc := tx_ctl hq
  obtain ⟨a0, a1, a2, a3, a4⟩ := tx_ent (tx_c1 hq)
  obtain ⟨m0, m1, m2, m3, m4⟩ := tx_ent (tx_c6 hq)
  obtain ⟨i0, i1, i2, i3, i4, i5⟩ := tx_inb (tx_c11 hq)
  obtain ⟨d0, d1, d2, d3⟩ := tx_des (tx_c17 hq)
  have w0 := tx_dwr (tx_c21 hq)
  refine tw_Sp_of rfl rfl (Nat.le_of_ble_eq_true rfl) (fun X h => ?_)
  have off : ∀ c j i, (c ≠ q + 3 ∧ c ≠ 7 ∧ ¬ (67 - q ≤ c ∧ c ≤ 72 - q)) → p_fd f q s i c j = f c j := fun c j i g => p_fd_off hq g i
  have loop : ∀ n i : Nat, i + n = 4 → X 5 [some (tw_R 0), some (tw_R q), some (tw_R (q + 17)), some (tw_I (nI i))] [] tx_L0 (p_fd f q s i) := by
    intro n
    induction n with
    | zero =>
      intro i hi
      obtain rfl : i = 4 := by omega
      refine zi_iload_n h rfl rfl ?_
      refine zn_iconst h 4 rfl rfl ?_
      first | refine zn_icmpge h rfl (by omega) (by omega) (fun hc => ?_) (fun hc => ?_) | refine zc_icmpge h rfl (fun hc => ?_) (fun hc => ?_)
      · refine zi_aload_n h rfl rfl ?_
        refine zi_iconst h rfl ?_
        refine zp_int h rfl (by first | rfl | assumption) (by decide) rfl ?_
        refine zi_vret h rfl ?_
        exact hP
      · omega
    | succ n ih =>
      intro i hi
      have ih := ih (i + 1) (by omega)
      have e18 := off (q + 18) i i (by omega)
      have e20 := off (q + 20) i i (by omega)
      refine zi_iload_n h rfl rfl ?_
      refine zn_iconst h 4 rfl rfl ?_
      first | refine zn_icmpge h rfl (by omega) (by omega) (fun hc => ?_) (fun hc => ?_) | refine zc_icmpge h rfl (fun hc => ?_) (fun hc => ?_)
      · omega
      · refine zi_aload_n h rfl rfl ?_
        refine zg_ref h rfl (by first | rfl | assumption) (by decide) rfl rfl ?_
        refine zi_iload_n h rfl rfl ?_
        refine za_z h rfl (by first | rfl | assumption) rfl (by omega) (by decide) ?_
        first | refine zb_ifeq h rfl (fun hc => ?_) (fun hc => ?_) | refine zc_ifeq h rfl (fun hc => ?_) (fun hc => ?_)
        · rw [e18] at hc
          rw [show p_fd f q s (i + 1) = p_fd f q s i from if_pos hc] at ih
          first | refine zn_iinc h 1 rfl rfl rfl ?_ | refine zi_iinc h rfl rfl ?_
          refine zi_goto h rfl ?_
          exact ih
        · rw [e18] at hc
          rw [show p_fd f q s (i + 1) = _ from if_neg hc, ← e20] at ih
          refine zi_aload_n h rfl rfl ?_
          refine zi_aload_n h rfl rfl ?_
          refine zi_aload_n h rfl rfl ?_
          refine zg_nat h s rfl (by first | rfl | assumption) (by decide) rfl (by rw [off _ _ _ (by omega)]; exact hs) ?_
          refine zn_iconst h 4 rfl rfl ?_
          first | refine zn_imul h rfl ?_ | refine zi_imul h rfl ?_
          refine zi_iload_n h rfl rfl ?_
          first | refine zn_iadd h rfl ?_ | refine zi_iadd h rfl ?_
          refine zi_aload_n h rfl rfl ?_
          refine zg_ref h rfl (by first | rfl | assumption) (by decide) rfl rfl ?_
          refine zi_iload_n h rfl rfl ?_
          refine za_i h rfl (by first | rfl | assumption) rfl (by omega) (by decide) ?_
          refine zk_V h [_, _, _] rfl (by first | rfl | assumption) rfl rfl (Nat.le_of_ble_eq_true rfl) (s_releaseTaken hq (by rw [off _ _ _ (by omega)]; exact hn) (p_fd_box hq hb i) (by rw [off _ _ _ (by omega)]; exact ht) ht2 (by omega) ?_)
          first | refine zn_iinc h 1 rfl rfl rfl ?_ | refine zi_iinc h rfl rfl ?_
          refine zi_goto h rfl ?_
          exact ih
  refine zi_aload_n h rfl rfl ?_
  refine zg_ref h rfl (by first | rfl | assumption) (by decide) rfl rfl ?_
  refine zi_astore_n h rfl (Nat.le_of_ble_eq_true rfl) ?_
  refine zn_iconst h 0 rfl rfl ?_
  refine zi_istore_n h rfl (Nat.le_of_ble_eq_true rfl) ?_
  exact loop 4 0 (by omega)
set_option maxRecDepth 20000 in
theorem s_goOnDestaging {fl : Bool} {d : Nat} {f : tw_S} {P : tw_S → Option tw_A → Prop} {q tm s i n : Nat} (hq : q = 17 ∨ q = 39) (hn : f q 0 = if q = 17 then 0 else 1) (hb : p_box f (56 - q)) (ht : f 6 5 = nI tm) (ht2 : tm ≤ 200) (hs : f (q + 17) 3 = nI s) (hs2 : s < 8) (hi : f (q + 17) 4 = nI i) (hin : i + n = 4) (h1 : p_ft (p_can f q s) n i < 4 → P (p_wr (tw_up f (q + 17) 4 (nI (p_ft (p_can f q s) n i + 1))) q (nI (p_dd s (p_ft (p_can f q s) n i))) (nI s) (f (q + 19) (p_ft (p_can f q s) n i)) (f q 10)) none) (h2 : ¬ p_ft (p_can f q s) n i < 4 → (f (q + 17) 6 = 0 ∧ f (q + 17) 5 = 0 ∧ ¬ f 2 (p_pd s) = 0) → P (p_wr (tw_up (tw_up f (q + 17) 4 (nI 4)) (q + 17) 6 1) q (nI (p_pd s)) (nI s) (p_x4 (f (q + 19)) 4) (f q 10)) none) (h3 : ¬ p_ft (p_can f q s) n i < 4 → ¬ (f (q + 17) 6 = 0 ∧ f (q + 17) 5 = 0 ∧ ¬ f 2 (p_pd s) = 0) → P (tw_up (p_fd (tw_up f (q + 17) 4 (nI 4)) q s 4) (q + 17) 3 (-1)) none) : tS fl (d + 6) 77 [tw_R 0, tw_R q] f P := by
  have lc := tx_ctl hq
  obtain ⟨a0, a1, a2, a3, a4⟩ := tx_ent (tx_c1 hq)
  obtain ⟨m0, m1, m2, m3, m4⟩ := tx_ent (tx_c6 hq)
  obtain ⟨i0, i1, i2, i3, i4, i5⟩ := tx_inb (tx_c11 hq)
  obtain ⟨d0, d1, d2, d3⟩ := tx_des (tx_c17 hq)
  have w0 := tx_dwr (tx_c21 hq)
  have hpd : p_pd s < 5 := by unfold p_pd; omega
  refine tw_Sp_of rfl rfl (Nat.le_of_ble_eq_true rfl) (fun X h => ?_)
  have off : ∀ (c j : Nat) (x : Int32), ¬ (c = q + 17 ∧ j = 4) → tw_up f (q + 17) 4 x c j = f c j := fun c j x g => tw_off g
  have last : ∀ o1 o2, ¬ p_ft (p_can f q s) n i < 4 → X 45 [some (tw_R 0), some (tw_R q), some (tw_R (q + 17)), o1, o2] [] tx_L0 (tw_up f (q + 17) 4 (nI 4)) := by
    intro o1 o2 hf
    have fin : ∀ o1 o2, ¬ (f (q + 17) 6 = 0 ∧ f (q + 17) 5 = 0 ∧ ¬ f 2 (p_pd s) = 0) → X 75 [some (tw_R 0), some (tw_R q), some (tw_R (q + 17)), o1, o2] [] tx_L0 (tw_up f (q + 17) 4 (nI 4)) := by
      intro o1 o2 hx
      refine zi_aload_n h rfl rfl ?_
      refine zi_aload_n h rfl rfl ?_
      refine zk_V h [_] rfl (by first | rfl | assumption) rfl rfl (Nat.le_of_ble_eq_true rfl) (s_finishDestaging hq (by rw [off _ _ _ (by omega)]; exact hn) (p_box_up (by omega) hb) (by rw [off _ _ _ (by omega)]; exact ht) ht2 (by rw [off _ _ _ (by omega)]; exact hs) hs2 ?_)
      refine zi_vret h rfl ?_
      exact h3 hf hx
    refine zi_aload_n h rfl rfl ?_
    refine zg_nat h s rfl (by first | rfl | assumption) (by decide) rfl (by rw [off _ _ _ (by omega)]; exact hs) ?_
    refine zk_S h [_] rfl rfl rfl (Nat.le_of_ble_eq_true rfl) (s_parityDisk hs2 ?_)
    refine zi_istore_n h rfl (Nat.le_of_ble_eq_true rfl) ?_
    refine zi_aload_n h rfl rfl ?_
    refine zg_boo h rfl (by first | rfl | assumption) (by decide) rfl ?_
    first | refine zb_ifne h rfl (fun hc => ?_) (fun hc => ?_) | refine zc_ifne h rfl (fun hc => ?_) (fun hc => ?_)
    · refine fin _ _ (fun u => hc ?_)
      rw [off _ _ _ (by omega)]
      exact u.1
    · rw [off _ _ _ (by omega)] at hc
      have c6 := hc
      refine zi_aload_n h rfl rfl ?_
      refine zg_boo h rfl (by first | rfl | assumption) (by decide) rfl ?_
      first | refine zb_ifne h rfl (fun hc => ?_) (fun hc => ?_) | refine zc_ifne h rfl (fun hc => ?_) (fun hc => ?_)
      · refine fin _ _ (fun u => hc ?_)
        rw [off _ _ _ (by omega)]
        exact u.2.1
      · rw [off _ _ _ (by omega)] at hc
        have c5 := hc
        refine zi_aload_n h rfl rfl ?_
        refine zg_ref h rfl (by first | rfl | assumption) (by decide) rfl rfl ?_
        refine zg_ref h rfl (by first | rfl | assumption) (by decide) rfl rfl ?_
        refine zi_iload_n h rfl rfl ?_
        refine za_z h rfl (by first | rfl | assumption) rfl (by omega) (by decide) ?_
        first | refine zb_ifeq h rfl (fun hc => ?_) (fun hc => ?_) | refine zc_ifeq h rfl (fun hc => ?_) (fun hc => ?_)
        · refine fin _ _ (fun u => u.2.2 ?_)
          rw [off _ _ _ (by omega)] at hc
          exact hc
        · rw [off _ _ _ (by omega)] at hc
          have h2 := h2 hf ⟨c6, c5, hc⟩
          refine zi_aload_n h rfl rfl ?_
          refine zn_iconst h 1 rfl rfl ?_
          refine zp_boo h rfl (by first | rfl | assumption) (by decide) rfl (by first | exact Or.inl rfl | exact Or.inr rfl | assumption) ?_
          refine zi_aload_n h rfl rfl ?_
          refine zg_ref h rfl (by first | rfl | assumption) (by decide) rfl rfl ?_
          refine zi_iload_n h rfl rfl ?_
          refine zi_aload_n h rfl rfl ?_
          refine zg_nat h s rfl (by first | rfl | assumption) (by decide) rfl (by rw [tw_off (by omega), off _ _ _ (by omega)]; exact hs) ?_
          refine zi_aload_n h rfl rfl ?_
          refine zk_V h [] rfl (by first | rfl | assumption) rfl rfl (Nat.le_of_ble_eq_true rfl) (s_xorOfData (tx_c17 hq) ?_)
          refine zi_aload_n h rfl rfl ?_
          refine zg_int h rfl (by first | rfl | assumption) (by decide) rfl ?_
          refine zk_V h [_, _, _, _] rfl (by first | rfl | assumption) rfl rfl (Nat.le_of_ble_eq_true rfl) (s_wbegin (tx_c21 hq) ?_)
          refine zi_vret h rfl ?_
          rw [show tw_up (tw_up f (q + 17) 4 (nI 4)) (q + 17) 6 (nI 1) (q + 17 + 2) = f (q + 19) by funext j; rw [tw_off (by omega), off _ _ _ (by omega)], show tw_up (tw_up f (q + 17) 4 (nI 4)) (q + 17) 6 (nI 1) q 10 = f q 10 by rw [tw_off (by omega), off _ _ _ (by omega)]]
          exact h2
  have loop : ∀ m k : Nat, k + m = 4 → p_ft (p_can f q s) m k = p_ft (p_can f q s) n i → ∀ o, X 6 [some (tw_R 0), some (tw_R q), some (tw_R (q + 17)), some (tw_I (nI k)), o] [] tx_L0 (tw_up f (q + 17) 4 (nI k)) := by
    intro m
    induction m with
    | zero =>
      intro k hk he o
      obtain rfl : k = 4 := by omega
      have he : 4 = p_ft (p_can f q s) n i := he
      refine zi_iload_n h rfl rfl ?_
      refine zn_iconst h 4 rfl rfl ?_
      first | refine zn_icmpge h rfl (by omega) (by omega) (fun hc => ?_) (fun hc => ?_) | refine zc_icmpge h rfl (fun hc => ?_) (fun hc => ?_)
      · exact last _ _ (by omega)
      · omega
    | succ m ih =>
      intro k hk he o
      have upup : ∀ c j, tw_up (tw_up f (q + 17) 4 (nI k)) (q + 17) 4 (nI (k + 1)) c j = tw_up f (q + 17) 4 (nI (k + 1)) c j := by
        intro c j
        unfold tw_up
        split <;> rfl
      have skip : p_can f q s k = 0 → ∀ o, X 43 [some (tw_R 0), some (tw_R q), some (tw_R (q + 17)), some (tw_I (nI k)), o] [] tx_L0 (tw_up f (q + 17) 4 (nI (k + 1))) := by
        intro hz o
        have ih := ih (k + 1) (by omega) (by rw [← he]; simp [p_ft, hz])
        first | refine zn_iinc h 1 rfl rfl rfl ?_ | refine zi_iinc h rfl rfl ?_
        refine zi_goto h rfl ?_
        exact ih _
      refine zi_iload_n h rfl rfl ?_
      refine zn_iconst h 4 rfl rfl ?_
      first | refine zn_icmpge h rfl (by omega) (by omega) (fun hc => ?_) (fun hc => ?_) | refine zc_icmpge h rfl (fun hc => ?_) (fun hc => ?_)
      · omega
      · refine zi_aload_n h rfl rfl ?_
        refine zi_iload_n h rfl rfl ?_
        refine zn_iconst h 1 rfl rfl ?_
        first | refine zn_iadd h rfl ?_ | refine zi_iadd h rfl ?_
        refine zp_int h rfl (by first | rfl | assumption) (by decide) rfl ?_
        refine tw_mem upup ?_
        refine zi_aload_n h rfl rfl ?_
        refine zg_nat h s rfl (by first | rfl | assumption) (by decide) rfl (by rw [off _ _ _ (by omega)]; exact hs) ?_
        refine zi_iload_n h rfl rfl ?_
        refine zk_S h [_, _] rfl rfl rfl (Nat.le_of_ble_eq_true rfl) (s_dataDisk hs2 (by omega) ?_)
        have hdd := p_dd_lt (s := s) (k := k) (by omega)
        refine zi_istore h rfl (Nat.le_of_ble_eq_true rfl) ?_
        refine zi_aload_n h rfl rfl ?_
        refine zg_ref h rfl (by first | rfl | assumption) (by decide) rfl rfl ?_
        refine zi_iload_n h rfl rfl ?_
        refine za_z h rfl (by first | rfl | assumption) rfl (by omega) (by decide) ?_
        first | refine zb_ifeq h rfl (fun hc => ?_) (fun hc => ?_) | refine zc_ifeq h rfl (fun hc => ?_) (fun hc => ?_)
        · rw [off _ _ _ (by omega)] at hc
          exact skip (if_pos (Or.inl hc)) _
        · rw [off _ _ _ (by omega)] at hc
          have c18 := hc
          refine zi_aload_n h rfl rfl ?_
          refine zg_ref h rfl (by first | rfl | assumption) (by decide) rfl rfl ?_
          refine zg_ref h rfl (by first | rfl | assumption) (by decide) rfl rfl ?_
          refine zi_iload h rfl rfl ?_
          refine za_z h rfl (by first | rfl | assumption) rfl (by omega) (by decide) ?_
          first | refine zb_ifeq h rfl (fun hc => ?_) (fun hc => ?_) | refine zc_ifeq h rfl (fun hc => ?_) (fun hc => ?_)
          · rw [off _ _ _ (by omega)] at hc
            exact skip (if_pos (Or.inr hc)) _
          · rw [off _ _ _ (by omega)] at hc
            have hz : ¬ p_can f q s k = 0 := by
              rw [p_can, if_neg (fun u => u.elim c18 hc)]
              decide
            have he : k = p_ft (p_can f q s) n i := by rw [← he]; simp [p_ft, hz]
            have h1 := h1 (by omega)
            rw [← he] at h1
            refine zi_aload_n h rfl rfl ?_
            refine zg_ref h rfl (by first | rfl | assumption) (by decide) rfl rfl ?_
            refine zi_iload h rfl rfl ?_
            refine zi_aload_n h rfl rfl ?_
            refine zg_nat h s rfl (by first | rfl | assumption) (by decide) rfl (by rw [off _ _ _ (by omega)]; exact hs) ?_
            refine zi_aload_n h rfl rfl ?_
            refine zg_ref h rfl (by first | rfl | assumption) (by decide) rfl rfl ?_
            refine zi_iload_n h rfl rfl ?_
            refine za_i h rfl (by first | rfl | assumption) rfl (by omega) (by decide) ?_
            refine zi_aload_n h rfl rfl ?_
            refine zg_int h rfl (by first | rfl | assumption) (by decide) rfl ?_
            refine zk_V h [_, _, _, _] rfl (by first | rfl | assumption) rfl rfl (Nat.le_of_ble_eq_true rfl) (s_wbegin (tx_c21 hq) ?_)
            refine zi_vret h rfl ?_
            rw [show tw_up f (q + 17) 4 (nI (k + 1)) (q + 17 + 2) k = f (q + 19) k from off _ _ _ (by omega), show tw_up f (q + 17) 4 (nI (k + 1)) q 10 = f q 10 from off _ _ _ (by omega)]
            exact h1
  refine zi_aload_n h rfl rfl ?_
  refine zg_ref h rfl (by first | rfl | assumption) (by decide) rfl rfl ?_
  refine zi_astore_n h rfl (Nat.le_of_ble_eq_true rfl) ?_
  refine zi_aload_n h rfl rfl ?_
  refine zg_nat h i rfl (by first | rfl | assumption) (by decide) rfl hi ?_
  refine zi_istore_n h rfl (Nat.le_of_ble_eq_true rfl) ?_
  refine tw_mem (fun c j => ?_) (loop n i hin rfl _)
  unfold tw_up
  split
  · rename_i u
    rw [u.1, u.2, hi]
  · rfl
