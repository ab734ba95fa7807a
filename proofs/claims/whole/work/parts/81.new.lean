/-! The constructors: the cells come one by one. -/
/-- the first k cells, and of their references those to cells that are there and not in hide -/
def tx_Lp (k : Nat) (hide : List Nat) : tw_L := (tx_L0.take k).map (fun c => (c.1, c.2.1, c.2.2.map (fun r => match r with
  | some q => if q < k ∧ hide.contains q = false then some q else none
  | none => none)))
def ck_arr (Lf L L2 : tw_L) (a nn k q a2 b2 : Nat) : Bool := decide (L.length = k) && (decide (k + 1 ≤ Lf.length) && (decide (tw_sl L + nn ≤ tw_sl Lf) && (decide (nn < 4096) && (decide (q < k) && match (L[q]? : Option tw_K) with
  | some (a3, n3, rs) => decide (a3 = a2) && (decide (b2 < n3) && (decide (b2 < rs.length) && decide ((L ++ [(a, nn, [])]).set q (a2, n3, rs.set b2 (some k)) = L2)))
  | none => false))))
def ck_new (Lf L L2 : tw_L) (a b k : Nat) : Bool := decide (L.length = k) && (decide (k + 1 ≤ Lf.length) && (decide (tw_sl L + b ≤ tw_sl Lf) && decide (L ++ [(a, b, List.replicate b none)] = L2)))
def ck_le (Lf L L2 : tw_L) : Bool := decide (L.length ≤ L2.length) && (decide (tw_sl L ≤ tw_sl L2) && (decide (L2.length ≤ Lf.length) && decide (tw_sl L2 ≤ tw_sl Lf)))
def ck_put (L L2 : tw_L) (q q2 a b : Nat) : Bool := match (L[q]? : Option tw_K) with
  | some (a3, n3, rs) => decide (a3 = a) && (decide (b < n3) && (decide (b < rs.length) && decide (L.set q (a, n3, rs.set b (some q2)) = L2)))
  | none => false
def ck_at (L : tw_L) (q a b : Nat) : Bool := match (L[q]? : Option tw_K) with
  | some (a3, n3, _) => decide (a3 = a) && decide (b < n3)
  | none => false
section ZQ
variable {mt : List tw_MR} {sw : tw_SW} {ft : Nat → Nat → Nat} {fl : Bool} {xs : Option (Nat × (Nat → Int32))} {Sp : tw_SP} {Lf : tw_L} {P : tw_S → Option tw_A → Prop} {t : tw_T} {X : tw_X} {ix pc a b c : Nat} {n : Int} {v : Int32} {ls : List (Option tw_A)} {st : List tw_A} {L : tw_L} {f : tw_S}
theorem zq_arr (h : tw_Cl mt sw ft true xs Sp Lf P t X) (k : Nat) (L2 : tw_L) {x : Int32} {nn q pc2 a2 b2 c2 : Nat} {n2 : Int} {v2 : Int32} (hi : t[ix]? = some (pc, 43, a, b, c, n, v)) (hi2 : t[ix + 1]? = some (pc2, 30, a2, b2, c2, n2, v2)) (hx : x = nI nn) (hf : ft a2 b2 = 2) (hc : ck_arr Lf L L2 a nn k q a2 b2 = true) (k0 : X (ix + 1 + 1) ls st L2 (tw_z f k)) : X ix ls (tw_I x :: tw_R q :: st) L f := by
  unfold ck_arr at hc
  split at hc
  · next a3 n3 rs hL =>
    simp only [Bool.and_eq_true, decide_eq_true_eq] at hc
    obtain ⟨e1, e2, e3, e4, e5, e6, e7, e8, e9⟩ := hc
    subst e1 e6 e9
    refine zi_newa h hi rfl hx e4 e2 e3 ?_
    refine zi_putFr h hi2 (nn := n3) (rs := rs) ?_ e7 e8 hf k0
    rw [List.getElem?_append_left e5]
    exact hL
  · simp at hc
theorem zq_new (h : tw_Cl mt sw ft true xs Sp Lf P t X) (k : Nat) (L2 : tw_L) (hi : t[ix]? = some (pc, 42, a, b, c, n, v)) (hc : ck_new Lf L L2 a b k = true) (k0 : X (ix + 1) ls (tw_R k :: st) L2 (tw_z f k)) : X ix ls st L f := by
  unfold ck_new at hc
  simp only [Bool.and_eq_true, decide_eq_true_eq] at hc
  obtain ⟨e1, e2, e3, e4⟩ := hc
  subst e1 e4
  exact zi_new h hi rfl e2 e3 k0
theorem zq_I (h : tw_Cl mt sw ft fl xs Sp Lf P t X) (As : List tw_A) (L2 : tw_L) {stk : List tw_A} {q : Nat} (hi : t[ix]? = some (pc, 37, a, b, c, n, v)) (hn : As.length = tw_na mt a) (hst : stk = As.reverse ++ tw_R q :: st) (hs : (st.map tw_ct).sum ≤ 8) (hc : ck_le Lf L L2 = true) (k0 : Sp a (tw_R q :: As) L f L2 (fun f2 r => X (ix + 1) ls (r.toList ++ st) L2 f2)) : X ix ls stk L f := by
  unfold ck_le at hc
  simp only [Bool.and_eq_true, decide_eq_true_eq] at hc
  obtain ⟨e1, e2, e3, e4⟩ := hc
  subst hst
  exact zi_callI h hi hn hs e1 e2 e3 e4 k0
theorem zq_putr (h : tw_Cl mt sw ft fl xs Sp Lf P t X) (L2 : tw_L) {q2 q : Nat} (hi : t[ix]? = some (pc, 30, a, b, c, n, v)) (hf : ft a b = 2) (hc : ck_put L L2 q q2 a b = true) (k0 : X (ix + 1) ls st L2 f) : X ix ls (tw_R q2 :: tw_R q :: st) L f := by
  unfold ck_put at hc
  split at hc
  · next a3 n3 rs hL =>
    simp only [Bool.and_eq_true, decide_eq_true_eq] at hc
    obtain ⟨e1, e2, e3, e4⟩ := hc
    subst e1 e4
    exact zi_putFr h hi hL e2 e3 hf k0
  · simp at hc
theorem zq_put (h : tw_Cl mt sw ft fl xs Sp Lf P t X) {x : Int32} {q : Nat} (hi : t[ix]? = some (pc, 28, a, b, c, n, v)) (hf : ft a b = 0 ∨ (ft a b = 1 ∧ (x = 0 ∨ x = 1))) (hc : ck_at L q a b = true) (k0 : X (ix + 1) ls st L (tw_up f q b x)) : X ix ls (tw_I x :: tw_R q :: st) L f := by
  unfold ck_at at hc
  split at hc
  · next a3 n3 rs hL =>
    simp only [Bool.and_eq_true, decide_eq_true_eq] at hc
    obtain ⟨e1, e2⟩ := hc
    subst e1
    exact zi_putf h hi hL e2 hf k0
  · simp at hc
theorem zq_putF (h : tw_Cl mt sw ft fl xs Sp Lf P t X) {x : Int32} {q : Nat} (hi : t[ix]? = some (pc, 29, a, b, c, n, v)) (hf : ft a b = 0 ∨ (ft a b = 1 ∧ (x = 0 ∨ x = 1))) (hc : ck_at L q a b = true) (k0 : X (ix + 1) ls st L (tw_up f q b x)) : X ix ls (tw_I x :: tw_R q :: st) L f := by
  unfold ck_at at hc
  split at hc
  · next a3 n3 rs hL =>
    simp only [Bool.and_eq_true, decide_eq_true_eq] at hc
    obtain ⟨e1, e2⟩ := hc
    subst e1
    exact zi_putFi h hi hL e2 hf k0
  · simp at hc
end ZQ
/-- the rows from lo up to hi are 0 -/
def zr (f : tw_S) (lo hi : Nat) : tw_S := fun c j => if lo ≤ c ∧ c < hi then 0 else f c j
/-- a new controller -/
def mCk (q i c j : Nat) : Int32 := if c = q ∧ (j = 6 ∨ j = 7 ∨ j = 10) then 1 else if c = q ∧ j = 0 then nI i else if c = q ∧ j = 11 then nI (i + 1) else if c = q + 17 ∧ j = 3 then -1 else 0
def mC (f : tw_S) (q i : Nat) : tw_S := fun c j => if q ≤ c ∧ c < q + 22 then mCk q i c j else f c j
def mDi (f : tw_S) (i : Nat) : tw_S := fun c j => if (c = 2 ∨ c = 3) ∧ j < i then 1 else if 2 ≤ c ∧ c < 6 then 0 else f c j
def mD (f : tw_S) : tw_S := mDi f 5
/-- a new TwinArray -/
def m0T (f : tw_S) : tw_S := fun c j => if c < 17 then (if (c = 2 ∨ c = 3) ∧ j < 5 then 1 else 0) else if c < 39 then mCk 17 0 c j else if c < 61 then mCk 39 1 c j else f c j
theorem mC_off {f : tw_S} {q i c j : Nat} (h : c < q ∨ q + 22 ≤ c) : mC f q i c j = f c j := if_neg (by omega)
theorem mC_in {f : tw_S} {q i c j : Nat} (h : q ≤ c ∧ c < q + 22) : mC f q i c j = mCk q i c j := if_pos h
theorem z_off {f : tw_S} {q c j : Nat} (h : c ≠ q) : tw_z f q c j = f c j := if_neg h
theorem zr_off {f : tw_S} {lo hi c j : Nat} (h : c < lo ∨ hi ≤ c) : zr f lo hi c j = f c j := if_neg (by omega)
def mB (f : tw_S) (q n : Nat) : tw_S := fun c j => if q + 1 ≤ c ∧ c < n then (if c = q + 17 ∧ j = 3 then -1 else 0) else f c j
theorem zr_1 (f : tw_S) (a b : Nat) (h : a < b) : zr (tw_z f a) (a + 1) b = zr f a b := by
  funext c j
  simp only [zr, tw_z]
  (repeat' split) <;> first | rfl | omega
theorem zr_2 (f : tw_S) (a b d : Nat) (h : a ≤ b ∧ b ≤ d) : zr (zr f a b) b d = zr f a d := by
  funext c j
  simp only [zr]
  (repeat' split) <;> first | rfl | omega
theorem up_zr (f : tw_S) (a b q i : Nat) (h : a ≤ q ∧ q < b) : tw_up (zr f a b) q i 0 = zr f a b := by
  funext c j
  simp only [zr, tw_up]
  (repeat' split) <;> first | rfl | omega
def mCb (f : tw_S) (q : Nat) : tw_S := (tw_up (tw_up (tw_up (tw_up (tw_up (tw_z (tw_up (tw_up (tw_up (tw_up (zr (tw_z (tw_up (tw_up (zr (tw_z (zr (tw_z (zr (tw_z f (q + 1)) (q + 2) (q + 6)) (q + 6)) (q + 7) (q + 11)) (q + 11)) (q + 12) (q + 17)) (q + 11) 5 0) (q + 11) 6 0) (q + 17)) (q + 18) (q + 21)) (q + 17) 3 (-1)) (q + 17) 4 0) (q + 17) 5 0) (q + 17) 6 0) (q + 21)) (q + 21) 0 0) (q + 21) 1 0) (q + 21) 2 0) (q + 21) 3 0) (q + 21) 4 0)
theorem mCb_eq (f : tw_S) (q : Nat) : mCb f q = mB f q (q + 22) := by
  unfold mCb
  rw [show zr (tw_z f (q + 1)) (q + 2) (q + 6) = zr f (q + 1) (q + 6) from zr_1 f (q + 1) (q + 6) (by omega), show ∀ g : tw_S, zr (tw_z g (q + 6)) (q + 7) (q + 11) = zr g (q + 6) (q + 11) from fun g => zr_1 g (q + 6) (q + 11) (by omega), zr_2 _ _ _ _ (by omega), show ∀ g : tw_S, zr (tw_z g (q + 11)) (q + 12) (q + 17) = zr g (q + 11) (q + 17) from fun g => zr_1 g (q + 11) (q + 17) (by omega), zr_2 _ _ _ _ (by omega), up_zr _ _ _ _ _ (by omega), up_zr _ _ _ _ _ (by omega), show ∀ g : tw_S, zr (tw_z g (q + 17)) (q + 18) (q + 21) = zr g (q + 17) (q + 21) from fun g => zr_1 g (q + 17) (q + 21) (by omega), zr_2 _ _ _ _ (by omega)]
  have e1 : tw_up (tw_up (tw_up (tw_up (zr f (q + 1) (q + 21)) (q + 17) 3 (-1)) (q + 17) 4 0) (q + 17) 5 0) (q + 17) 6 0 = mB f q (q + 21) := by
    funext c j
    simp only [zr, tw_up, mB]
    (repeat' split) <;> first | rfl | omega
  have e2 : ∀ i : Nat, tw_up (mB f q (q + 22)) (q + 21) i 0 = mB f q (q + 22) := by
    intro i
    funext c j
    simp only [tw_up, mB]
    (repeat' split) <;> first | rfl | omega
  have e3 : tw_z (mB f q (q + 21)) (q + 21) = mB f q (q + 22) := by
    funext c j
    simp only [tw_z, mB]
    (repeat' split) <;> first | rfl | omega
  rw [e1, e3, e2, e2, e2, e2, e2]
theorem tw_up_q {f : tw_S} {q b j : Nat} {x : Int32} : tw_up f q b x q j = if j = b then x else f q j := by simp only [tw_up, true_and]
theorem mC_eq {f : tw_S} {q i : Nat} (hz : ∀ j, f q j = 0) (hi : (nI 1 : Int32) <<< (nI i &&& 31) = nI (i + 1)) (c j : Nat) : (tw_up (tw_up (tw_up (tw_up (tw_up (tw_up (tw_up (tw_up (tw_up (tw_up (tw_up (tw_up (tw_up (tw_up (mCb f q) q 6 (nI 1)) q 7 (nI 1)) q 8 (nI 0)) q 9 (nI 0)) q 10 (nI 1)) q 12 (nI 0)) q 13 (nI 0)) q 14 (nI 0)) q 15 (nI 0)) q 16 (nI 0)) q 17 (nI 0)) q 18 (nI 0)) q 0 (nI i)) q 11 (nI 1 <<< (nI i &&& 31))) c j = mC f q i c j := by
  rw [mCb_eq]
  by_cases h0 : c = q
  · subst h0
    have e1 : mB f c (c + 22) c j = 0 := by unfold mB; rw [if_neg (by omega)]; exact hz j
    have e2 : mC f c i c j = if j = 6 ∨ j = 7 ∨ j = 10 then 1 else if j = 0 then nI i else if j = 11 then nI (i + 1) else 0 := by
      rw [mC_in (by omega)]
      unfold mCk
      simp only [true_and, show ¬ (c = c + 17 ∧ j = 3) by omega, if_false]
    rw [e2]
    simp only [tw_up_q, e1, hi]
    rcases (by omega : j = 0 ∨ j = 6 ∨ j = 7 ∨ j = 8 ∨ j = 9 ∨ j = 10 ∨ j = 11 ∨ j = 12 ∨ j = 13 ∨ j = 14 ∨ j = 15 ∨ j = 16 ∨ j = 17 ∨ j = 18 ∨ (j ≠ 0 ∧ j ≠ 6 ∧ j ≠ 7 ∧ j ≠ 8 ∧ j ≠ 9 ∧ j ≠ 10 ∧ j ≠ 11 ∧ j ≠ 12 ∧ j ≠ 13 ∧ j ≠ 14 ∧ j ≠ 15 ∧ j ≠ 16 ∧ j ≠ 17 ∧ j ≠ 18)) with rfl | rfl | rfl | rfl | rfl | rfl | rfl | rfl | rfl | rfl | rfl | rfl | rfl | rfl | h
    all_goals first | rfl | skip
    simp only [h, if_false, or_self]
  · simp only [tw_up, h0, false_and, if_false]
    by_cases h1 : q ≤ c ∧ c < q + 22
    · rw [mC_in h1]
      unfold mB mCk
      simp only [h0, false_and, if_false]
      rw [if_pos (by omega)]
    · rw [mC_off (by omega)]
      unfold mB
      rw [if_neg (by omega)]
theorem m0T_eq {f : tw_S} (hz : ∀ j, f 0 j = 0) (c j : Nat) : tw_up (mC (tw_z (mC (tw_z (tw_up (zr (tw_z (tw_up (zr (tw_z (mD (tw_z f 1)) 6) 7 12) 6 5 0) 12) 13 17) 12 4 0) 17) 17 0) 39) 39 1) 0 5 (nI 0) c j = m0T f c j := by
  rw [show zr (tw_z (mD (tw_z f 1)) 6) 7 12 = zr (mD (tw_z f 1)) 6 12 from zr_1 _ 6 12 (by omega), up_zr _ 6 12 6 5 (by omega), show ∀ g : tw_S, zr (tw_z g 12) 13 17 = zr g 12 17 from fun g => zr_1 g 12 17 (by omega), zr_2 _ _ _ _ (by omega), up_zr _ 6 17 12 4 (by omega)]
  by_cases h0 : c = 0
  · subst h0
    rw [tw_up_q, mC_off (by omega), z_off (by omega), mC_off (by omega), z_off (by omega), zr_off (by omega)]
    simp only [mD, mDi, tw_z, m0T, hz]
    (repeat' split) <;> first | rfl | omega
  · rw [tw_off (by omega)]
    by_cases h1 : c < 17
    · rw [mC_off (by omega), z_off (by omega), mC_off (by omega), z_off (by omega)]
      simp only [zr, mD, mDi, m0T, tw_z]
      (repeat' split) <;> first | rfl | omega
    · by_cases h2 : c < 39
      · rw [mC_off (by omega), z_off (by omega), mC_in (by omega)]
        unfold m0T
        rw [if_neg h1, if_pos h2]
      · by_cases h3 : c < 61
        · rw [mC_in (by omega)]
          unfold m0T
          rw [if_neg h1, if_neg h2, if_pos h3]
        · rw [mC_off (by omega), z_off (by omega), mC_off (by omega), z_off (by omega), zr_off (by omega)]
          unfold m0T mD mDi
          rw [if_neg h1, if_neg h2, if_neg h3, if_neg (by omega), if_neg (by omega), z_off (by omega)]
set_option maxRecDepth 20000 in
theorem n_E18 {d : Nat} {f : tw_S} {P : tw_S → Option tw_A → Prop} (hP : P (zr f 19 23) none) : tw_Sp tx_mt tx_sw tx_ft true (d + 1) 0 [tw_R 18] (tx_Lp 19 [17, 18]) f (tx_Lp 23 [17, 18]) P := by
  refine tw_Sp_of rfl rfl (Nat.le_of_ble_eq_true rfl) (fun X h => ?_)
  refine zi_aload_n h rfl rfl ?_
  refine zi_objInit h rfl ?_
  refine zi_aload_n h rfl rfl ?_
  refine zn_bipush h 32 rfl rfl ?_
  refine zq_arr h 19 (tx_Lp 20 [17, 18]) rfl rfl rfl rfl (by decide +kernel) ?_
  refine zi_aload_n h rfl rfl ?_
  refine zn_bipush h 32 rfl rfl ?_
  refine zq_arr h 20 (tx_Lp 21 [17, 18]) rfl rfl rfl rfl (by decide +kernel) ?_
  show X 10 _ _ _ _
  refine zi_aload_n h rfl rfl ?_
  refine zn_bipush h 32 rfl rfl ?_
  refine zq_arr h 21 (tx_Lp 22 [17, 18]) rfl rfl rfl rfl (by decide +kernel) ?_
  refine zi_aload_n h rfl rfl ?_
  refine zn_bipush h 32 rfl rfl ?_
  refine zq_arr h 22 (tx_Lp 23 [17, 18]) rfl rfl rfl rfl (by decide +kernel) ?_
  refine zi_vret h rfl ?_
  refine tw_memP (fun c j => ?_) hP
  simp only [tw_z, tw_up, zr, tw_n0, tw_n1]
  (repeat' split) <;> first | rfl | omega
set_option maxRecDepth 20000 in
theorem n_E23 {d : Nat} {f : tw_S} {P : tw_S → Option tw_A → Prop} (hP : P (zr f 24 28) none) : tw_Sp tx_mt tx_sw tx_ft true (d + 1) 0 [tw_R 23] (tx_Lp 24 [17, 23]) f (tx_Lp 28 [17, 23]) P := by
  refine tw_Sp_of rfl rfl (Nat.le_of_ble_eq_true rfl) (fun X h => ?_)
  refine zi_aload_n h rfl rfl ?_
  refine zi_objInit h rfl ?_
  refine zi_aload_n h rfl rfl ?_
  refine zn_bipush h 32 rfl rfl ?_
  refine zq_arr h 24 (tx_Lp 25 [17, 23]) rfl rfl rfl rfl (by decide +kernel) ?_
  refine zi_aload_n h rfl rfl ?_
  refine zn_bipush h 32 rfl rfl ?_
  refine zq_arr h 25 (tx_Lp 26 [17, 23]) rfl rfl rfl rfl (by decide +kernel) ?_
  show X 10 _ _ _ _
  refine zi_aload_n h rfl rfl ?_
  refine zn_bipush h 32 rfl rfl ?_
  refine zq_arr h 26 (tx_Lp 27 [17, 23]) rfl rfl rfl rfl (by decide +kernel) ?_
  refine zi_aload_n h rfl rfl ?_
  refine zn_bipush h 32 rfl rfl ?_
  refine zq_arr h 27 (tx_Lp 28 [17, 23]) rfl rfl rfl rfl (by decide +kernel) ?_
  refine zi_vret h rfl ?_
  refine tw_memP (fun c j => ?_) hP
  simp only [tw_z, tw_up, zr, tw_n0, tw_n1]
  (repeat' split) <;> first | rfl | omega
set_option maxRecDepth 20000 in
theorem n_I28 {d : Nat} {f : tw_S} {P : tw_S → Option tw_A → Prop} (hP : P (tw_up (tw_up (zr f 29 34) 28 5 0) 28 6 0) none) : tw_Sp tx_mt tx_sw tx_ft true (d + 1) 1 [tw_R 28] (tx_Lp 29 [17, 28]) f (tx_Lp 34 [17, 28]) P := by
  refine tw_Sp_of rfl rfl (Nat.le_of_ble_eq_true rfl) (fun X h => ?_)
  refine zi_aload_n h rfl rfl ?_
  refine zi_objInit h rfl ?_
  refine zi_aload_n h rfl rfl ?_
  refine zn_bipush h 40 rfl rfl ?_
  refine zq_arr h 29 (tx_Lp 30 [17, 28]) rfl rfl rfl rfl (by decide +kernel) ?_
  refine zi_aload_n h rfl rfl ?_
  refine zn_bipush h 40 rfl rfl ?_
  refine zq_arr h 30 (tx_Lp 31 [17, 28]) rfl rfl rfl rfl (by decide +kernel) ?_
  show X 10 _ _ _ _
  refine zi_aload_n h rfl rfl ?_
  refine zn_bipush h 40 rfl rfl ?_
  refine zq_arr h 31 (tx_Lp 32 [17, 28]) rfl rfl rfl rfl (by decide +kernel) ?_
  refine zi_aload_n h rfl rfl ?_
  refine zn_bipush h 40 rfl rfl ?_
  refine zq_arr h 32 (tx_Lp 33 [17, 28]) rfl rfl rfl rfl (by decide +kernel) ?_
  refine zi_aload_n h rfl rfl ?_
  refine zn_bipush h 40 rfl rfl ?_
  show X 20 _ _ _ _
  refine zq_arr h 33 (tx_Lp 34 [17, 28]) rfl rfl rfl rfl (by decide +kernel) ?_
  refine zi_aload_n h rfl rfl ?_
  refine zn_iconst h 0 rfl rfl ?_
  refine zq_put h rfl (Or.inl rfl) (by decide +kernel) ?_
  refine zi_aload_n h rfl rfl ?_
  refine zn_iconst h 0 rfl rfl ?_
  refine zq_put h rfl (Or.inl rfl) (by decide +kernel) ?_
  refine zi_vret h rfl ?_
  refine tw_memP (fun c j => ?_) hP
  simp only [tw_z, tw_up, zr, tw_n0, tw_n1]
  (repeat' split) <;> first | rfl | omega
set_option maxRecDepth 20000 in
theorem n_D34 {d : Nat} {f : tw_S} {P : tw_S → Option tw_A → Prop} (hP : P (tw_up (tw_up (tw_up (tw_up (zr f 35 38) 34 3 (-1)) 34 4 0) 34 5 0) 34 6 0) none) : tw_Sp tx_mt tx_sw tx_ft true (d + 1) 2 [tw_R 34] (tx_Lp 35 [17, 34]) f (tx_Lp 38 [17, 34]) P := by
  refine tw_Sp_of rfl rfl (Nat.le_of_ble_eq_true rfl) (fun X h => ?_)
  refine zi_aload_n h rfl rfl ?_
  refine zi_objInit h rfl ?_
  refine zi_aload_n h rfl rfl ?_
  refine zn_iconst h 4 rfl rfl ?_
  refine zq_arr h 35 (tx_Lp 36 [17, 34]) rfl rfl rfl rfl (by decide +kernel) ?_
  refine zi_aload_n h rfl rfl ?_
  refine zn_iconst h 4 rfl rfl ?_
  refine zq_arr h 36 (tx_Lp 37 [17, 34]) rfl rfl rfl rfl (by decide +kernel) ?_
  show X 10 _ _ _ _
  refine zi_aload_n h rfl rfl ?_
  refine zn_iconst h 4 rfl rfl ?_
  refine zq_arr h 37 (tx_Lp 38 [17, 34]) rfl rfl rfl rfl (by decide +kernel) ?_
  refine zi_aload_n h rfl rfl ?_
  refine zi_iconst h rfl ?_
  refine zq_put h rfl (Or.inl rfl) (by decide +kernel) ?_
  refine zi_aload_n h rfl rfl ?_
  refine zn_iconst h 0 rfl rfl ?_
  show X 19 _ _ _ _
  refine zq_put h rfl (Or.inl rfl) (by decide +kernel) ?_
  refine zi_aload_n h rfl rfl ?_
  refine zn_iconst h 0 rfl rfl ?_
  refine zq_put h rfl (Or.inr ⟨rfl, Or.inl rfl⟩) (by decide +kernel) ?_
  refine zi_aload_n h rfl rfl ?_
  refine zn_iconst h 0 rfl rfl ?_
  refine zq_put h rfl (Or.inr ⟨rfl, Or.inl rfl⟩) (by decide +kernel) ?_
  refine zi_vret h rfl ?_
  refine tw_memP (fun c j => ?_) hP
  simp only [tw_z, tw_up, zr, tw_n0, tw_n1]
  (repeat' split) <;> first | rfl | omega
set_option maxRecDepth 20000 in
theorem n_W38 {d : Nat} {f : tw_S} {P : tw_S → Option tw_A → Prop} (hP : P (tw_up (tw_up (tw_up (tw_up (tw_up f 38 0 0) 38 1 0) 38 2 0) 38 3 0) 38 4 0) none) : tw_Sp tx_mt tx_sw tx_ft true (d + 1) 3 [tw_R 38] (tx_Lp 39 [17, 38]) f (tx_Lp 39 [17, 38]) P := by
  refine tw_Sp_of rfl rfl (Nat.le_of_ble_eq_true rfl) (fun X h => ?_)
  refine zi_aload_n h rfl rfl ?_
  refine zi_objInit h rfl ?_
  refine zi_aload_n h rfl rfl ?_
  refine zn_iconst h 0 rfl rfl ?_
  refine zq_put h rfl (Or.inr ⟨rfl, Or.inl rfl⟩) (by decide +kernel) ?_
  refine zi_aload_n h rfl rfl ?_
  refine zn_iconst h 0 rfl rfl ?_
  refine zq_put h rfl (Or.inl rfl) (by decide +kernel) ?_
  show X 8 _ _ _ _
  refine zi_aload_n h rfl rfl ?_
  refine zn_iconst h 0 rfl rfl ?_
  refine zq_put h rfl (Or.inl rfl) (by decide +kernel) ?_
  refine zi_aload_n h rfl rfl ?_
  refine zn_iconst h 0 rfl rfl ?_
  refine zq_put h rfl (Or.inl rfl) (by decide +kernel) ?_
  refine zi_aload_n h rfl rfl ?_
  refine zn_iconst h 0 rfl rfl ?_
  show X 16 _ _ _ _
  refine zq_put h rfl (Or.inl rfl) (by decide +kernel) ?_
  refine zi_vret h rfl ?_
  exact hP
set_option maxRecDepth 20000 in
theorem n_C17 {d : Nat} {f : tw_S} {P : tw_S → Option tw_A → Prop} (hz : ∀ j, f 17 j = 0) (hP : P (mC f 17 0) none) : tw_Sp tx_mt tx_sw tx_ft true (d + 2) 4 [tw_R 17, tw_I (nI 0)] (tx_Lp 18 [17]) f (tx_Lp 39 [17]) P := by
  refine tw_Sp_of rfl rfl (Nat.le_of_ble_eq_true rfl) (fun X h => ?_)
  refine zi_aload_n h rfl rfl ?_
  refine zi_objInit h rfl ?_
  refine zi_aload_n h rfl rfl ?_
  refine zq_new h 18 (tx_Lp 19 [17, 18]) rfl (by decide +kernel) ?_
  refine zi_dup h rfl rfl ?_
  refine zq_I h [] (tx_Lp 23 [17, 18]) rfl rfl rfl (Nat.le_of_ble_eq_true rfl) (by decide +kernel) (n_E18 ?_)
  refine zq_putr h (tx_Lp 23 [17]) rfl rfl (by decide +kernel) ?_
  refine zi_aload_n h rfl rfl ?_
  show X 8 _ _ _ _
  refine zq_new h 23 (tx_Lp 24 [17, 23]) rfl (by decide +kernel) ?_
  refine zi_dup h rfl rfl ?_
  refine zq_I h [] (tx_Lp 28 [17, 23]) rfl rfl rfl (Nat.le_of_ble_eq_true rfl) (by decide +kernel) (n_E23 ?_)
  refine zq_putr h (tx_Lp 28 [17]) rfl rfl (by decide +kernel) ?_
  refine zi_aload_n h rfl rfl ?_
  refine zq_new h 28 (tx_Lp 29 [17, 28]) rfl (by decide +kernel) ?_
  refine zi_dup h rfl rfl ?_
  refine zq_I h [] (tx_Lp 34 [17, 28]) rfl rfl rfl (Nat.le_of_ble_eq_true rfl) (by decide +kernel) (n_I28 ?_)
  show X 16 _ _ _ _
  refine zq_putr h (tx_Lp 34 [17]) rfl rfl (by decide +kernel) ?_
  refine zi_aload_n h rfl rfl ?_
  refine zq_new h 34 (tx_Lp 35 [17, 34]) rfl (by decide +kernel) ?_
  refine zi_dup h rfl rfl ?_
  refine zq_I h [] (tx_Lp 38 [17, 34]) rfl rfl rfl (Nat.le_of_ble_eq_true rfl) (by decide +kernel) (n_D34 ?_)
  refine zq_putr h (tx_Lp 38 [17]) rfl rfl (by decide +kernel) ?_
  refine zi_aload_n h rfl rfl ?_
  refine zq_new h 38 (tx_Lp 39 [17, 38]) rfl (by decide +kernel) ?_
  show X 24 _ _ _ _
  refine zi_dup h rfl rfl ?_
  refine zq_I h [] (tx_Lp 39 [17, 38]) rfl rfl rfl (Nat.le_of_ble_eq_true rfl) (by decide +kernel) (n_W38 ?_)
  refine zq_putr h (tx_Lp 39 [17]) rfl rfl (by decide +kernel) ?_
  refine zi_aload_n h rfl rfl ?_
  refine zn_iconst h 1 rfl rfl ?_
  refine zq_put h rfl (Or.inr ⟨rfl, Or.inr rfl⟩) (by decide +kernel) ?_
  refine zi_aload_n h rfl rfl ?_
  refine zn_iconst h 1 rfl rfl ?_
  show X 32 _ _ _ _
  refine zq_put h rfl (Or.inr ⟨rfl, Or.inr rfl⟩) (by decide +kernel) ?_
  refine zi_aload_n h rfl rfl ?_
  refine zn_iconst h 0 rfl rfl ?_
  refine zq_put h rfl (Or.inr ⟨rfl, Or.inl rfl⟩) (by decide +kernel) ?_
  refine zi_aload_n h rfl rfl ?_
  refine zn_iconst h 0 rfl rfl ?_
  refine zq_put h rfl (Or.inr ⟨rfl, Or.inl rfl⟩) (by decide +kernel) ?_
  refine zi_aload_n h rfl rfl ?_
  show X 40 _ _ _ _
  refine zn_iconst h 1 rfl rfl ?_
  refine zq_put h rfl (Or.inl rfl) (by decide +kernel) ?_
  refine zi_aload_n h rfl rfl ?_
  refine zn_iconst h 0 rfl rfl ?_
  refine zq_put h rfl (Or.inl rfl) (by decide +kernel) ?_
  refine zi_aload_n h rfl rfl ?_
  refine zn_iconst h 0 rfl rfl ?_
  refine zq_put h rfl (Or.inl rfl) (by decide +kernel) ?_
  show X 48 _ _ _ _
  refine zi_aload_n h rfl rfl ?_
  refine zn_iconst h 0 rfl rfl ?_
  refine zq_put h rfl (Or.inl rfl) (by decide +kernel) ?_
  refine zi_aload_n h rfl rfl ?_
  refine zn_iconst h 0 rfl rfl ?_
  refine zq_put h rfl (Or.inl rfl) (by decide +kernel) ?_
  refine zi_aload_n h rfl rfl ?_
  refine zn_iconst h 0 rfl rfl ?_
  show X 56 _ _ _ _
  refine zq_put h rfl (Or.inl rfl) (by decide +kernel) ?_
  refine zi_aload_n h rfl rfl ?_
  refine zn_iconst h 0 rfl rfl ?_
  refine zq_put h rfl (Or.inl rfl) (by decide +kernel) ?_
  refine zi_aload_n h rfl rfl ?_
  refine zn_iconst h 0 rfl rfl ?_
  refine zq_put h rfl (Or.inl rfl) (by decide +kernel) ?_
  refine zi_aload_n h rfl rfl ?_
  show X 64 _ _ _ _
  refine zi_iload_n h rfl rfl ?_
  refine zq_putF h rfl (Or.inl rfl) (by decide +kernel) ?_
  refine zi_aload_n h rfl rfl ?_
  refine zn_iconst h 1 rfl rfl ?_
  refine zi_iload_n h rfl rfl ?_
  refine zi_ishl h rfl ?_
  refine zq_put h rfl (Or.inl rfl) (by decide +kernel) ?_
  refine zi_vret h rfl ?_
  refine tw_memP (fun c j => ?_) hP
  exact mC_eq hz (by decide +kernel) c j
set_option maxRecDepth 20000 in
theorem n_E40 {d : Nat} {f : tw_S} {P : tw_S → Option tw_A → Prop} (hP : P (zr f 41 45) none) : tw_Sp tx_mt tx_sw tx_ft true (d + 1) 0 [tw_R 40] (tx_Lp 41 [39, 40]) f (tx_Lp 45 [39, 40]) P := by
  refine tw_Sp_of rfl rfl (Nat.le_of_ble_eq_true rfl) (fun X h => ?_)
  refine zi_aload_n h rfl rfl ?_
  refine zi_objInit h rfl ?_
  refine zi_aload_n h rfl rfl ?_
  refine zn_bipush h 32 rfl rfl ?_
  refine zq_arr h 41 (tx_Lp 42 [39, 40]) rfl rfl rfl rfl (by decide +kernel) ?_
  refine zi_aload_n h rfl rfl ?_
  refine zn_bipush h 32 rfl rfl ?_
  refine zq_arr h 42 (tx_Lp 43 [39, 40]) rfl rfl rfl rfl (by decide +kernel) ?_
  show X 10 _ _ _ _
  refine zi_aload_n h rfl rfl ?_
  refine zn_bipush h 32 rfl rfl ?_
  refine zq_arr h 43 (tx_Lp 44 [39, 40]) rfl rfl rfl rfl (by decide +kernel) ?_
  refine zi_aload_n h rfl rfl ?_
  refine zn_bipush h 32 rfl rfl ?_
  refine zq_arr h 44 (tx_Lp 45 [39, 40]) rfl rfl rfl rfl (by decide +kernel) ?_
  refine zi_vret h rfl ?_
  refine tw_memP (fun c j => ?_) hP
  simp only [tw_z, tw_up, zr, tw_n0, tw_n1]
  (repeat' split) <;> first | rfl | omega
set_option maxRecDepth 20000 in
theorem n_E45 {d : Nat} {f : tw_S} {P : tw_S → Option tw_A → Prop} (hP : P (zr f 46 50) none) : tw_Sp tx_mt tx_sw tx_ft true (d + 1) 0 [tw_R 45] (tx_Lp 46 [39, 45]) f (tx_Lp 50 [39, 45]) P := by
  refine tw_Sp_of rfl rfl (Nat.le_of_ble_eq_true rfl) (fun X h => ?_)
  refine zi_aload_n h rfl rfl ?_
  refine zi_objInit h rfl ?_
  refine zi_aload_n h rfl rfl ?_
  refine zn_bipush h 32 rfl rfl ?_
  refine zq_arr h 46 (tx_Lp 47 [39, 45]) rfl rfl rfl rfl (by decide +kernel) ?_
  refine zi_aload_n h rfl rfl ?_
  refine zn_bipush h 32 rfl rfl ?_
  refine zq_arr h 47 (tx_Lp 48 [39, 45]) rfl rfl rfl rfl (by decide +kernel) ?_
  show X 10 _ _ _ _
  refine zi_aload_n h rfl rfl ?_
  refine zn_bipush h 32 rfl rfl ?_
  refine zq_arr h 48 (tx_Lp 49 [39, 45]) rfl rfl rfl rfl (by decide +kernel) ?_
  refine zi_aload_n h rfl rfl ?_
  refine zn_bipush h 32 rfl rfl ?_
  refine zq_arr h 49 (tx_Lp 50 [39, 45]) rfl rfl rfl rfl (by decide +kernel) ?_
  refine zi_vret h rfl ?_
  refine tw_memP (fun c j => ?_) hP
  simp only [tw_z, tw_up, zr, tw_n0, tw_n1]
  (repeat' split) <;> first | rfl | omega
set_option maxRecDepth 20000 in
theorem n_I50 {d : Nat} {f : tw_S} {P : tw_S → Option tw_A → Prop} (hP : P (tw_up (tw_up (zr f 51 56) 50 5 0) 50 6 0) none) : tw_Sp tx_mt tx_sw tx_ft true (d + 1) 1 [tw_R 50] (tx_Lp 51 [39, 50]) f (tx_Lp 56 [39, 50]) P := by
  refine tw_Sp_of rfl rfl (Nat.le_of_ble_eq_true rfl) (fun X h => ?_)
  refine zi_aload_n h rfl rfl ?_
  refine zi_objInit h rfl ?_
  refine zi_aload_n h rfl rfl ?_
  refine zn_bipush h 40 rfl rfl ?_
  refine zq_arr h 51 (tx_Lp 52 [39, 50]) rfl rfl rfl rfl (by decide +kernel) ?_
  refine zi_aload_n h rfl rfl ?_
  refine zn_bipush h 40 rfl rfl ?_
  refine zq_arr h 52 (tx_Lp 53 [39, 50]) rfl rfl rfl rfl (by decide +kernel) ?_
  show X 10 _ _ _ _
  refine zi_aload_n h rfl rfl ?_
  refine zn_bipush h 40 rfl rfl ?_
  refine zq_arr h 53 (tx_Lp 54 [39, 50]) rfl rfl rfl rfl (by decide +kernel) ?_
  refine zi_aload_n h rfl rfl ?_
  refine zn_bipush h 40 rfl rfl ?_
  refine zq_arr h 54 (tx_Lp 55 [39, 50]) rfl rfl rfl rfl (by decide +kernel) ?_
  refine zi_aload_n h rfl rfl ?_
  refine zn_bipush h 40 rfl rfl ?_
  show X 20 _ _ _ _
  refine zq_arr h 55 (tx_Lp 56 [39, 50]) rfl rfl rfl rfl (by decide +kernel) ?_
  refine zi_aload_n h rfl rfl ?_
  refine zn_iconst h 0 rfl rfl ?_
  refine zq_put h rfl (Or.inl rfl) (by decide +kernel) ?_
  refine zi_aload_n h rfl rfl ?_
  refine zn_iconst h 0 rfl rfl ?_
  refine zq_put h rfl (Or.inl rfl) (by decide +kernel) ?_
  refine zi_vret h rfl ?_
  refine tw_memP (fun c j => ?_) hP
  simp only [tw_z, tw_up, zr, tw_n0, tw_n1]
  (repeat' split) <;> first | rfl | omega
set_option maxRecDepth 20000 in
theorem n_D56 {d : Nat} {f : tw_S} {P : tw_S → Option tw_A → Prop} (hP : P (tw_up (tw_up (tw_up (tw_up (zr f 57 60) 56 3 (-1)) 56 4 0) 56 5 0) 56 6 0) none) : tw_Sp tx_mt tx_sw tx_ft true (d + 1) 2 [tw_R 56] (tx_Lp 57 [39, 56]) f (tx_Lp 60 [39, 56]) P := by
  refine tw_Sp_of rfl rfl (Nat.le_of_ble_eq_true rfl) (fun X h => ?_)
  refine zi_aload_n h rfl rfl ?_
  refine zi_objInit h rfl ?_
  refine zi_aload_n h rfl rfl ?_
  refine zn_iconst h 4 rfl rfl ?_
  refine zq_arr h 57 (tx_Lp 58 [39, 56]) rfl rfl rfl rfl (by decide +kernel) ?_
  refine zi_aload_n h rfl rfl ?_
  refine zn_iconst h 4 rfl rfl ?_
  refine zq_arr h 58 (tx_Lp 59 [39, 56]) rfl rfl rfl rfl (by decide +kernel) ?_
  show X 10 _ _ _ _
  refine zi_aload_n h rfl rfl ?_
  refine zn_iconst h 4 rfl rfl ?_
  refine zq_arr h 59 (tx_Lp 60 [39, 56]) rfl rfl rfl rfl (by decide +kernel) ?_
  refine zi_aload_n h rfl rfl ?_
  refine zi_iconst h rfl ?_
  refine zq_put h rfl (Or.inl rfl) (by decide +kernel) ?_
  refine zi_aload_n h rfl rfl ?_
  refine zn_iconst h 0 rfl rfl ?_
  show X 19 _ _ _ _
  refine zq_put h rfl (Or.inl rfl) (by decide +kernel) ?_
  refine zi_aload_n h rfl rfl ?_
  refine zn_iconst h 0 rfl rfl ?_
  refine zq_put h rfl (Or.inr ⟨rfl, Or.inl rfl⟩) (by decide +kernel) ?_
  refine zi_aload_n h rfl rfl ?_
  refine zn_iconst h 0 rfl rfl ?_
  refine zq_put h rfl (Or.inr ⟨rfl, Or.inl rfl⟩) (by decide +kernel) ?_
  refine zi_vret h rfl ?_
  refine tw_memP (fun c j => ?_) hP
  simp only [tw_z, tw_up, zr, tw_n0, tw_n1]
  (repeat' split) <;> first | rfl | omega
set_option maxRecDepth 20000 in
theorem n_W60 {d : Nat} {f : tw_S} {P : tw_S → Option tw_A → Prop} (hP : P (tw_up (tw_up (tw_up (tw_up (tw_up f 60 0 0) 60 1 0) 60 2 0) 60 3 0) 60 4 0) none) : tw_Sp tx_mt tx_sw tx_ft true (d + 1) 3 [tw_R 60] (tx_Lp 61 [39, 60]) f (tx_Lp 61 [39, 60]) P := by
  refine tw_Sp_of rfl rfl (Nat.le_of_ble_eq_true rfl) (fun X h => ?_)
  refine zi_aload_n h rfl rfl ?_
  refine zi_objInit h rfl ?_
  refine zi_aload_n h rfl rfl ?_
  refine zn_iconst h 0 rfl rfl ?_
  refine zq_put h rfl (Or.inr ⟨rfl, Or.inl rfl⟩) (by decide +kernel) ?_
  refine zi_aload_n h rfl rfl ?_
  refine zn_iconst h 0 rfl rfl ?_
  refine zq_put h rfl (Or.inl rfl) (by decide +kernel) ?_
  show X 8 _ _ _ _
  refine zi_aload_n h rfl rfl ?_
  refine zn_iconst h 0 rfl rfl ?_
  refine zq_put h rfl (Or.inl rfl) (by decide +kernel) ?_
  refine zi_aload_n h rfl rfl ?_
  refine zn_iconst h 0 rfl rfl ?_
  refine zq_put h rfl (Or.inl rfl) (by decide +kernel) ?_
  refine zi_aload_n h rfl rfl ?_
  refine zn_iconst h 0 rfl rfl ?_
  show X 16 _ _ _ _
  refine zq_put h rfl (Or.inl rfl) (by decide +kernel) ?_
  refine zi_vret h rfl ?_
  exact hP
set_option maxRecDepth 20000 in
theorem n_C39 {d : Nat} {f : tw_S} {P : tw_S → Option tw_A → Prop} (hz : ∀ j, f 39 j = 0) (hP : P (mC f 39 1) none) : tw_Sp tx_mt tx_sw tx_ft true (d + 2) 4 [tw_R 39, tw_I (nI 1)] (tx_Lp 40 [39]) f (tx_Lp 61 [39]) P := by
  refine tw_Sp_of rfl rfl (Nat.le_of_ble_eq_true rfl) (fun X h => ?_)
  refine zi_aload_n h rfl rfl ?_
  refine zi_objInit h rfl ?_
  refine zi_aload_n h rfl rfl ?_
  refine zq_new h 40 (tx_Lp 41 [39, 40]) rfl (by decide +kernel) ?_
  refine zi_dup h rfl rfl ?_
  refine zq_I h [] (tx_Lp 45 [39, 40]) rfl rfl rfl (Nat.le_of_ble_eq_true rfl) (by decide +kernel) (n_E40 ?_)
  refine zq_putr h (tx_Lp 45 [39]) rfl rfl (by decide +kernel) ?_
  refine zi_aload_n h rfl rfl ?_
  show X 8 _ _ _ _
  refine zq_new h 45 (tx_Lp 46 [39, 45]) rfl (by decide +kernel) ?_
  refine zi_dup h rfl rfl ?_
  refine zq_I h [] (tx_Lp 50 [39, 45]) rfl rfl rfl (Nat.le_of_ble_eq_true rfl) (by decide +kernel) (n_E45 ?_)
  refine zq_putr h (tx_Lp 50 [39]) rfl rfl (by decide +kernel) ?_
  refine zi_aload_n h rfl rfl ?_
  refine zq_new h 50 (tx_Lp 51 [39, 50]) rfl (by decide +kernel) ?_
  refine zi_dup h rfl rfl ?_
  refine zq_I h [] (tx_Lp 56 [39, 50]) rfl rfl rfl (Nat.le_of_ble_eq_true rfl) (by decide +kernel) (n_I50 ?_)
  show X 16 _ _ _ _
  refine zq_putr h (tx_Lp 56 [39]) rfl rfl (by decide +kernel) ?_
  refine zi_aload_n h rfl rfl ?_
  refine zq_new h 56 (tx_Lp 57 [39, 56]) rfl (by decide +kernel) ?_
  refine zi_dup h rfl rfl ?_
  refine zq_I h [] (tx_Lp 60 [39, 56]) rfl rfl rfl (Nat.le_of_ble_eq_true rfl) (by decide +kernel) (n_D56 ?_)
  refine zq_putr h (tx_Lp 60 [39]) rfl rfl (by decide +kernel) ?_
  refine zi_aload_n h rfl rfl ?_
  refine zq_new h 60 (tx_Lp 61 [39, 60]) rfl (by decide +kernel) ?_
  show X 24 _ _ _ _
  refine zi_dup h rfl rfl ?_
  refine zq_I h [] (tx_Lp 61 [39, 60]) rfl rfl rfl (Nat.le_of_ble_eq_true rfl) (by decide +kernel) (n_W60 ?_)
  refine zq_putr h (tx_Lp 61 [39]) rfl rfl (by decide +kernel) ?_
  refine zi_aload_n h rfl rfl ?_
  refine zn_iconst h 1 rfl rfl ?_
  refine zq_put h rfl (Or.inr ⟨rfl, Or.inr rfl⟩) (by decide +kernel) ?_
  refine zi_aload_n h rfl rfl ?_
  refine zn_iconst h 1 rfl rfl ?_
  show X 32 _ _ _ _
  refine zq_put h rfl (Or.inr ⟨rfl, Or.inr rfl⟩) (by decide +kernel) ?_
  refine zi_aload_n h rfl rfl ?_
  refine zn_iconst h 0 rfl rfl ?_
  refine zq_put h rfl (Or.inr ⟨rfl, Or.inl rfl⟩) (by decide +kernel) ?_
  refine zi_aload_n h rfl rfl ?_
  refine zn_iconst h 0 rfl rfl ?_
  refine zq_put h rfl (Or.inr ⟨rfl, Or.inl rfl⟩) (by decide +kernel) ?_
  refine zi_aload_n h rfl rfl ?_
  show X 40 _ _ _ _
  refine zn_iconst h 1 rfl rfl ?_
  refine zq_put h rfl (Or.inl rfl) (by decide +kernel) ?_
  refine zi_aload_n h rfl rfl ?_
  refine zn_iconst h 0 rfl rfl ?_
  refine zq_put h rfl (Or.inl rfl) (by decide +kernel) ?_
  refine zi_aload_n h rfl rfl ?_
  refine zn_iconst h 0 rfl rfl ?_
  refine zq_put h rfl (Or.inl rfl) (by decide +kernel) ?_
  show X 48 _ _ _ _
  refine zi_aload_n h rfl rfl ?_
  refine zn_iconst h 0 rfl rfl ?_
  refine zq_put h rfl (Or.inl rfl) (by decide +kernel) ?_
  refine zi_aload_n h rfl rfl ?_
  refine zn_iconst h 0 rfl rfl ?_
  refine zq_put h rfl (Or.inl rfl) (by decide +kernel) ?_
  refine zi_aload_n h rfl rfl ?_
  refine zn_iconst h 0 rfl rfl ?_
  show X 56 _ _ _ _
  refine zq_put h rfl (Or.inl rfl) (by decide +kernel) ?_
  refine zi_aload_n h rfl rfl ?_
  refine zn_iconst h 0 rfl rfl ?_
  refine zq_put h rfl (Or.inl rfl) (by decide +kernel) ?_
  refine zi_aload_n h rfl rfl ?_
  refine zn_iconst h 0 rfl rfl ?_
  refine zq_put h rfl (Or.inl rfl) (by decide +kernel) ?_
  refine zi_aload_n h rfl rfl ?_
  show X 64 _ _ _ _
  refine zi_iload_n h rfl rfl ?_
  refine zq_putF h rfl (Or.inl rfl) (by decide +kernel) ?_
  refine zi_aload_n h rfl rfl ?_
  refine zn_iconst h 1 rfl rfl ?_
  refine zi_iload_n h rfl rfl ?_
  refine zi_ishl h rfl ?_
  refine zq_put h rfl (Or.inl rfl) (by decide +kernel) ?_
  refine zi_vret h rfl ?_
  refine tw_memP (fun c j => ?_) hP
  exact mC_eq hz (by decide +kernel) c j
set_option maxRecDepth 20000 in
theorem n_Disks {d : Nat} {f : tw_S} {P : tw_S → Option tw_A → Prop} (hP : P (mD f) none) : tw_Sp tx_mt tx_sw tx_ft true (d + 1) 24 [tw_R 1] (tx_Lp 2 [1]) f (tx_Lp 6 [1]) P := by
  refine tw_Sp_of rfl rfl (Nat.le_of_ble_eq_true rfl) (fun X h => ?_)
  refine zi_aload_n h rfl rfl ?_
  refine zi_objInit h rfl ?_
  refine zi_aload_n h rfl rfl ?_
  refine zn_iconst h 5 rfl rfl ?_
  refine zq_arr h 2 (tx_Lp 3 [1]) rfl rfl rfl rfl (by decide +kernel) ?_
  refine zi_aload_n h rfl rfl ?_
  refine zn_iconst h 5 rfl rfl ?_
  refine zq_arr h 3 (tx_Lp 4 [1]) rfl rfl rfl rfl (by decide +kernel) ?_
  show X 10 _ _ _ _
  refine zi_aload_n h rfl rfl ?_
  refine zn_bipush h 40 rfl rfl ?_
  refine zq_arr h 4 (tx_Lp 5 [1]) rfl rfl rfl rfl (by decide +kernel) ?_
  refine zi_aload_n h rfl rfl ?_
  refine zn_bipush h 40 rfl rfl ?_
  refine zq_arr h 5 (tx_Lp 6 [1]) rfl rfl rfl rfl (by decide +kernel) ?_
  refine zn_iconst h 0 rfl rfl ?_
  refine zi_istore_n h rfl (Nat.le_of_ble_eq_true rfl) ?_
  show X 20 _ _ _ _
  have l1 : (tx_Lp 6 [1])[1]? = some (3, 4, [some 2, some 3, some 4, some 5]) := by decide +kernel
  have l2 : (tx_Lp 6 [1])[2]? = some (101, 5, []) := by decide +kernel
  have l3 : (tx_Lp 6 [1])[3]? = some (100, 5, []) := by decide +kernel
  have key : ∀ m i : Nat, i + m = 5 → X 20 [some (tw_R 1), some (tw_I (nI i))] [] (tx_Lp 6 [1]) (mDi f i) := by
    intro m
    induction m with
    | zero =>
      intro i hi
      obtain rfl : i = 5 := by omega
      refine zi_iload_n h rfl rfl ?_
      refine zn_iconst h 5 rfl rfl ?_
      refine zn_icmpge h rfl (by omega) (by omega) (fun hc => ?_) (fun hc => absurd hc (by omega))
      refine zi_vret h rfl ?_
      exact hP
    | succ m ih =>
      intro i hi
      refine zi_iload_n h rfl rfl ?_
      refine zn_iconst h 5 rfl rfl ?_
      refine zn_icmpge h rfl (by omega) (by omega) (fun hc => absurd hc (by omega)) (fun hc => ?_)
      refine zi_aload_n h rfl rfl ?_
      refine zg_ref h rfl l1 (by decide) rfl rfl ?_
      refine zi_iload_n h rfl rfl ?_
      refine zn_iconst h 1 rfl rfl ?_
      refine zs_z h rfl l2 rfl (by omega) (by decide) (Or.inr rfl) ?_
      refine zi_aload_n h rfl rfl ?_
      refine zg_ref h rfl l1 (by decide) rfl rfl ?_
      refine zi_iload_n h rfl rfl ?_
      refine zn_iconst h 1 rfl rfl ?_
      refine zs_i h rfl l3 rfl (by omega) (by decide) ?_
      refine zn_iinc h 1 rfl rfl rfl ?_
      refine zi_goto h rfl ?_
      refine tw_mem (fun c j => ?_) (ih (i + 1) (by omega))
      simp only [tw_up, mDi, tw_n1]
      (repeat' split) <;> first | rfl | omega
  refine tw_mem (fun c j => ?_) (key 5 0 (by omega))
  simp only [tw_z, mDi]
  (repeat' split) <;> first | rfl | omega
set_option maxRecDepth 20000 in
theorem n_Tickets {d : Nat} {f : tw_S} {P : tw_S → Option tw_A → Prop} (hP : P (tw_up (zr f 7 12) 6 5 0) none) : tw_Sp tx_mt tx_sw tx_ft true (d + 1) 53 [tw_R 6] (tx_Lp 7 [6]) f (tx_Lp 12 [6]) P := by
  refine tw_Sp_of rfl rfl (Nat.le_of_ble_eq_true rfl) (fun X h => ?_)
  refine zi_aload_n h rfl rfl ?_
  refine zi_objInit h rfl ?_
  refine zi_aload_n h rfl rfl ?_
  refine zn_sipush h 200 rfl rfl ?_
  refine zq_arr h 7 (tx_Lp 8 [6]) rfl rfl rfl rfl (by decide +kernel) ?_
  refine zi_aload_n h rfl rfl ?_
  refine zn_sipush h 200 rfl rfl ?_
  refine zq_arr h 8 (tx_Lp 9 [6]) rfl rfl rfl rfl (by decide +kernel) ?_
  show X 10 _ _ _ _
  refine zi_aload_n h rfl rfl ?_
  refine zn_sipush h 200 rfl rfl ?_
  refine zq_arr h 9 (tx_Lp 10 [6]) rfl rfl rfl rfl (by decide +kernel) ?_
  refine zi_aload_n h rfl rfl ?_
  refine zn_sipush h 200 rfl rfl ?_
  refine zq_arr h 10 (tx_Lp 11 [6]) rfl rfl rfl rfl (by decide +kernel) ?_
  refine zi_aload_n h rfl rfl ?_
  refine zn_sipush h 200 rfl rfl ?_
  show X 20 _ _ _ _
  refine zq_arr h 11 (tx_Lp 12 [6]) rfl rfl rfl rfl (by decide +kernel) ?_
  refine zi_aload_n h rfl rfl ?_
  refine zn_iconst h 0 rfl rfl ?_
  refine zq_put h rfl (Or.inl rfl) (by decide +kernel) ?_
  refine zi_vret h rfl ?_
  refine tw_memP (fun c j => ?_) hP
  simp only [tw_z, tw_up, zr, tw_n0, tw_n1]
  (repeat' split) <;> first | rfl | omega
set_option maxRecDepth 20000 in
theorem n_Late {d : Nat} {f : tw_S} {P : tw_S → Option tw_A → Prop} (hP : P (tw_up (zr f 13 17) 12 4 0) none) : tw_Sp tx_mt tx_sw tx_ft true (d + 1) 49 [tw_R 12] (tx_Lp 13 [12]) f (tx_Lp 17 [12]) P := by
  refine tw_Sp_of rfl rfl (Nat.le_of_ble_eq_true rfl) (fun X h => ?_)
  refine zi_aload_n h rfl rfl ?_
  refine zi_objInit h rfl ?_
  refine zi_aload_n h rfl rfl ?_
  refine zn_bipush h 20 rfl rfl ?_
  refine zq_arr h 13 (tx_Lp 14 [12]) rfl rfl rfl rfl (by decide +kernel) ?_
  refine zi_aload_n h rfl rfl ?_
  refine zn_bipush h 20 rfl rfl ?_
  refine zq_arr h 14 (tx_Lp 15 [12]) rfl rfl rfl rfl (by decide +kernel) ?_
  show X 10 _ _ _ _
  refine zi_aload_n h rfl rfl ?_
  refine zn_bipush h 20 rfl rfl ?_
  refine zq_arr h 15 (tx_Lp 16 [12]) rfl rfl rfl rfl (by decide +kernel) ?_
  refine zi_aload_n h rfl rfl ?_
  refine zn_bipush h 20 rfl rfl ?_
  refine zq_arr h 16 (tx_Lp 17 [12]) rfl rfl rfl rfl (by decide +kernel) ?_
  refine zi_aload_n h rfl rfl ?_
  refine zn_iconst h 0 rfl rfl ?_
  show X 20 _ _ _ _
  refine zq_put h rfl (Or.inl rfl) (by decide +kernel) ?_
  refine zi_vret h rfl ?_
  refine tw_memP (fun c j => ?_) hP
  simp only [tw_z, tw_up, zr, tw_n0, tw_n1]
  (repeat' split) <;> first | rfl | omega
set_option maxRecDepth 20000 in
theorem n_T {d : Nat} {f : tw_S} {P : tw_S → Option tw_A → Prop} (hz : ∀ j, f 0 j = 0) (hP : P (m0T f) none) : tw_Sp tx_mt tx_sw tx_ft true (d + 3) 61 [tw_R 0] (tx_Lp 1 []) f (tx_Lp 61 []) P := by
  refine tw_Sp_of rfl rfl (Nat.le_of_ble_eq_true rfl) (fun X h => ?_)
  refine zi_aload_n h rfl rfl ?_
  refine zi_objInit h rfl ?_
  refine zi_aload_n h rfl rfl ?_
  refine zq_new h 1 (tx_Lp 2 [1]) rfl (by decide +kernel) ?_
  refine zi_dup h rfl rfl ?_
  refine zq_I h [] (tx_Lp 6 [1]) rfl rfl rfl (Nat.le_of_ble_eq_true rfl) (by decide +kernel) (n_Disks ?_)
  refine zq_putr h (tx_Lp 6 []) rfl rfl (by decide +kernel) ?_
  refine zi_aload_n h rfl rfl ?_
  show X 8 _ _ _ _
  refine zq_new h 6 (tx_Lp 7 [6]) rfl (by decide +kernel) ?_
  refine zi_dup h rfl rfl ?_
  refine zq_I h [] (tx_Lp 12 [6]) rfl rfl rfl (Nat.le_of_ble_eq_true rfl) (by decide +kernel) (n_Tickets ?_)
  refine zq_putr h (tx_Lp 12 []) rfl rfl (by decide +kernel) ?_
  refine zi_aload_n h rfl rfl ?_
  refine zq_new h 12 (tx_Lp 13 [12]) rfl (by decide +kernel) ?_
  refine zi_dup h rfl rfl ?_
  refine zq_I h [] (tx_Lp 17 [12]) rfl rfl rfl (Nat.le_of_ble_eq_true rfl) (by decide +kernel) (n_Late ?_)
  show X 16 _ _ _ _
  refine zq_putr h (tx_Lp 17 []) rfl rfl (by decide +kernel) ?_
  refine zi_aload_n h rfl rfl ?_
  refine zq_new h 17 (tx_Lp 18 [17]) rfl (by decide +kernel) ?_
  refine zi_dup h rfl rfl ?_
  refine zn_iconst h 0 rfl rfl ?_
  refine zq_I h [tw_I (nI 0)] (tx_Lp 39 [17]) rfl rfl rfl (Nat.le_of_ble_eq_true rfl) (by decide +kernel) (n_C17 (fun j => if_pos rfl) ?_)
  refine zq_putr h (tx_Lp 39 []) rfl rfl (by decide +kernel) ?_
  refine zi_aload_n h rfl rfl ?_
  show X 24 _ _ _ _
  refine zq_new h 39 (tx_Lp 40 [39]) rfl (by decide +kernel) ?_
  refine zi_dup h rfl rfl ?_
  refine zn_iconst h 1 rfl rfl ?_
  refine zq_I h [tw_I (nI 1)] (tx_Lp 61 [39]) rfl rfl rfl (Nat.le_of_ble_eq_true rfl) (by decide +kernel) (n_C39 (fun j => if_pos rfl) ?_)
  refine zq_putr h (tx_Lp 61 []) rfl rfl (by decide +kernel) ?_
  refine zi_aload_n h rfl rfl ?_
  refine zn_iconst h 0 rfl rfl ?_
  refine zq_put h rfl (Or.inr ⟨rfl, Or.inl rfl⟩) (by decide +kernel) ?_
  show X 32 _ _ _ _
  refine zi_vret h rfl ?_
  refine tw_memP (fun c j => ?_) hP
  exact m0T_eq hz c j
