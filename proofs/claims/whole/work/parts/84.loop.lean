/-! The law's loop and its beginning. -/
theorem lw_and31 (x : Int32) : ∃ c, c < 32 ∧ x &&& nI 31 = nI c := by
  refine ⟨(x &&& nI 31).toBitVec.toNat, ?_, ?_⟩
  · rw [Int32.toBitVec_and, BitVec.toNat_and]
    exact Nat.lt_of_le_of_lt Nat.and_le_right (by decide)
  · have e : ∀ y : Int32, y = nI y.toBitVec.toNat := fun y => by
      rw [nI]
      exact Int32.toBitVec_inj.mp (by simp [Int32.toBitVec_ofNat])
    exact e _
theorem lw_exit {N k : Nat} (hN : N ≤ 2048) (hk : k ≤ 512) (h : ¬ (Int32.ofNat N - nI 4 < nI (4 * k))) : 4 * k + 4 ≤ N := by
  by_cases h4 : 4 ≤ N
  · have e : Int32.ofNat N - nI 4 = nI (N - 4) := pk_sub h4
    rw [e, nI_ltI (by omega) (by omega)] at h
    omega
  · exfalso
    apply h
    have h0 : (0 : Int32) ≤ nI (4 * k) := nI_pos' (by omega)
    have h1 : Int32.ofNat N - nI 4 < 0 := by
      rcases (by omega : N = 0 ∨ N = 1 ∨ N = 2 ∨ N = 3) with rfl | rfl | rfl | rfl <;> decide
    exact Int32.lt_of_lt_of_le h1 h0
theorem lw_tg {c : Nat} (hc : c < 32) (ts : List Nat) (df : Nat) : tw_tg 0 ts df (nI c) = ts.getD c df := by
  unfold tw_tg
  have e : (nI c).toInt = (c : Int) := by
    rw [nI]
    exact Int32.toInt_ofNat_of_lt (by omega)
  rw [e, if_neg (by omega)]
  congr 1
set_option maxRecDepth 20000 in
theorem lw_loop {N : Nat} {xs : Nat → Int32} {X : Nat → tw_X} (hN : N ≤ 2048) (hX : ∀ g, g ≤ 512 → lwC N xs (X g)) (hT : ∀ g, g < 512 → lwT (X g) (X (g + 1)) 96 7) (hV : ∀ g, g < 512 → lwT (X g) (X (g + 1)) 131 8) (hD : ∀ g, g < 512 → lwD (X g) (X (g + 1)) 412) : ∀ n k g, k + n = 512 → g ≤ k → ∀ (l5 l6 : Option tw_A) (f : tw_S) (tm : Nat), rR f f tm → X g 13 (lwS k l5 l6) [] tx_L0 f := by
  intro n
  induction n with
  | zero =>
    intro k g hk hg l5 l6 f tm hr
    have h := hX g (by omega)
    refine zi_iload h rfl rfl ?_
    refine zi_aloadZ h rfl rfl ?_
    refine zi_slen h rfl rfl ?_
    refine zn_iconst h 4 rfl rfl ?_
    refine zi_isub h rfl ?_
    refine zc_icmpgt h rfl (fun hc => ?_) (fun hc => ?_)
    · refine zn_iconst h 1 rfl rfl ?_
      exact zi_zret h rfl (Or.inr rfl) rfl
    · have h9 := lw_exit hN (by omega) hc
      omega
  | succ n ih =>
    intro k g hk hg l5 l6 f tm hr
    have h := hX g (by omega)
    have nxt : ∀ g2, g2 ≤ k + 1 → ∀ (l5 l6 : Option tw_A) (f2 : tw_S) (tm2 : Nat), rR f2 f2 tm2 → X g2 489 (lwS k l5 l6) [] tx_L0 f2 := by
      intro g2 hg2 l5 l6 f2 tm2 hr2
      have h2 := hX g2 (by omega)
      refine zn_iinc h2 4 rfl rfl rfl ?_
      refine zi_goto h2 rfl ?_
      exact ih (k + 1) g2 (by omega) hg2 l5 l6 f2 tm2 hr2
    refine zi_iload h rfl rfl ?_
    refine zi_aloadZ h rfl rfl ?_
    refine zi_slen h rfl rfl ?_
    refine zn_iconst h 4 rfl rfl ?_
    refine zi_isub h rfl ?_
    refine zc_icmpgt h rfl (fun hc => ?_) (fun hc => ?_)
    · refine zn_iconst h 1 rfl rfl ?_
      exact zi_zret h rfl (Or.inr rfl) rfl
    · have h4 := lw_exit hN (by omega) hc
      refine zi_aloadZ h rfl rfl ?_
      refine zi_iload h rfl rfl ?_
      refine zq_scr h rfl rfl (by omega) hN ?_
      refine zn_bipush h 31 rfl rfl ?_
      refine zi_iand h rfl ?_
      refine zi_switch h rfl rfl ?_
      obtain ⟨c, hc32, e⟩ := lw_and31 (xs (4 * k))
      rw [e, lw_tg hc32]
      have h2 := hX (g + 1) (by omega)
      have k1 := fun f2 tm2 (u : rR f2 f2 tm2) => nxt g (by omega) l5 l6 f2 tm2 u
      have k2 := nxt (g + 1) (by omega)
      match c, hc32 with
      | 0, _ => exact lw_write h hN h4 hr k1
      | 1, _ => exact lw_read h hN h4 hr k1
      | 2, _ => exact lw_ticket h h2 hN h4 hr k2 (hT g (by omega))
      | 3, _ => exact lw_value h h2 hN h4 hr k2 (hV g (by omega))
      | 4, _ => exact lw_step h hN h4 hr k1
      | 5, _ => exact lw_arrive h hN h4 hr k1
      | 6, _ => exact lw_cut h hN h4 hr k1
      | 7, _ => exact lw_crash h hN h4 hr k1
      | 8, _ => exact lw_restart h hN h4 hr k1
      | 9, _ => exact lw_pair h hN h4 hr k1
      | 10, _ => exact lw_takeOver h hN h4 hr k1
      | 11, _ => exact lw_moveOwner h hN h4 hr k1
      | 12, _ => exact lw_flush h hN h4 hr k1
      | 13, _ => exact lw_lose h hN h4 hr k1
      | 14, _ => exact lw_replace h hN h4 hr k1
      | 15, _ => exact lw_rebuild h hN h4 hr k1
      | 16, _ => exact lw_late h hN h4 hr k1
      | 17, _ => exact lw_lates h hN h4 hr k1
      | 18, _ => exact lw_parityGood h hN h4 hr k1
      | 19, _ => exact lw_onDisk h h2 hN h4 hr k2 (hD g (by omega))
      | 20, _ => exact lw_keyOf h hN h4 hr k1
      | 21, _ => exact lw_state h hN h4 hr k1
      | c + 22, _ => exact nxt g (by omega) l5 l6 f tm hr
theorem zq_newa {mt : List tw_MR} {sw : tw_SW} {ft : Nat → Nat → Nat} {xs : Option (Nat × (Nat → Int32))} {Sp : tw_SP} {Lf : tw_L} {P : tw_S → Option tw_A → Prop} {t : tw_T} {X : tw_X} {ix pc a b c : Nat} {n : Int} {v : Int32} {ls : List (Option tw_A)} {st : List tw_A} {L : tw_L} {f : tw_S} (h : tw_Cl mt sw ft true xs Sp Lf P t X) (k : Nat) (L2 : tw_L) {x : Int32} {nn : Nat} (hi : t[ix]? = some (pc, 43, a, b, c, n, v)) (hx : x = nI nn) (hc : (decide (L.length = k) && (decide (k + 1 ≤ Lf.length) && (decide (tw_sl L + nn ≤ tw_sl Lf) && (decide (nn < 4096) && decide (L ++ [(a, nn, [])] = L2))))) = true) (k0 : X (ix + 1) ls (tw_R k :: st) L2 (tw_z f k)) : X ix ls (tw_I x :: st) L f := by
  simp only [Bool.and_eq_true, decide_eq_true_eq] at hc
  obtain ⟨e1, e2, e3, e4, e5⟩ := hc
  subst e1 e5
  exact zi_newa h hi rfl hx e4 e2 e3 k0
theorem lw_first {f : tw_S} : rR (tw_z (mM2 (tw_z (m0T (tw_z f 0)) 61) 2) 108) (tw_z (mM2 (tw_z (m0T (tw_z f 0)) 61) 2) 108) 0 := by
  refine rR_new (fun c j hc => ?_) (fun c j h1 h2 => ?_)
  · rw [z_off (by omega)]
    unfold mM2 mM1 zr
    rw [if_neg (by omega), if_neg (by omega), if_neg (by omega), if_neg (by omega), if_neg (by omega), z_off (by omega)]
    unfold m0T
    (repeat' split) <;> first | rfl | omega
  · rw [z_off (by omega)]
    by_cases h3 : c = 61
    · subst h3
      unfold mM2 mM1 zr
      rw [if_neg (by omega), if_neg (by omega), if_neg (by omega), if_neg (by omega), if_neg (by omega), if_neg (by omega), if_neg (by omega), if_neg (by omega), if_neg (by omega), if_neg (by omega)]
      exact if_pos rfl
    · have e : ∀ g : tw_S, zr g 62 108 c j = 0 := fun g => if_pos (by omega)
      unfold mM2 mM1
      rw [e, e]
set_option maxRecDepth 20000 in
theorem lw_begin {N : Nat} {xs : Nat → Int32} {X : tw_X} (h : tw_Cl tx_mt tx_sw tx_ft true (some (N, xs)) (tw_Sp tx_mt tx_sw tx_ft true 10) tx_L0 (fun _ r => r = some (tw_I 1)) tx_tL X) (kk : ∀ f, rR f f 0 → X 13 (lwS 0 none none) [] tx_L0 f) (f : tw_S) : X 0 [some tw_Z, none, none, none, none, none, none] [] [] f := by
  refine zq_new h 0 (tx_Lp 1 []) rfl (by decide +kernel) ?_
  refine zi_dup h rfl rfl ?_
  refine zq_I h [] (tx_Lp 61 []) rfl rfl rfl (Nat.le_of_ble_eq_true rfl) (by decide +kernel) (n_T (d := 7) (fun j => if_pos rfl) ?_)
  show X 3 _ [tw_R 0] _ _
  refine zi_astore_n h rfl (Nat.le_of_ble_eq_true rfl) ?_
  refine zq_new h 61 (tx_Lp 62 []) rfl (by decide +kernel) ?_
  refine zi_dup h rfl rfl ?_
  refine zq_I h [] (tx_Lp 108 []) rfl rfl rfl (Nat.le_of_ble_eq_true rfl) (by decide +kernel) (n_M (d := 9) (fun j => if_pos rfl) ?_)
  show X 7 _ [tw_R 61] _ _
  refine zi_astore_n h rfl (Nat.le_of_ble_eq_true rfl) ?_
  refine zn_iconst h 1 rfl rfl ?_
  refine zq_newa h 108 tx_L0 rfl rfl (by decide +kernel) ?_
  refine zi_astore_n h rfl (Nat.le_of_ble_eq_true rfl) ?_
  refine zn_iconst h 0 rfl rfl ?_
  refine zi_istore h rfl (Nat.le_of_ble_eq_true rfl) ?_
  exact kk _ lw_first
