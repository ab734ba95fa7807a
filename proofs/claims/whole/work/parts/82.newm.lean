/-! The constructor of the reference. -/
theorem zr_z (f : tw_S) (a b : Nat) (h : a ≤ b) : tw_z (zr f a b) b = zr f a (b + 1) := by
  funext c j
  simp only [zr, tw_z]
  (repeat' split) <;> first | rfl | omega
theorem zr_0 (f : tw_S) (a : Nat) (c j : Nat) : f c j = zr f a a c j := (zr_off (by omega)).symm
theorem up_61 {f : tw_S} {b k : Nat} (hz : ∀ j, f 61 j = 0) (hk : 62 ≤ k) (c j : Nat) : tw_up (zr f 62 k) 61 b (nI 0) c j = zr f 62 k c j := by
  unfold tw_up
  split
  · next e => rw [e.1, zr_off (by omega), hz]; rfl
  · rfl
theorem zq_arz {mt : List tw_MR} {sw : tw_SW} {ft : Nat → Nat → Nat} {xs : Option (Nat × (Nat → Int32))} {Sp : tw_SP} {Lf : tw_L} {P : tw_S → Option tw_A → Prop} {t : tw_T} {X : tw_X} {ix pc a b c : Nat} {n : Int} {v : Int32} {ls : List (Option tw_A)} {st : List tw_A} {L : tw_L} {f : tw_S} (h : tw_Cl mt sw ft true xs Sp Lf P t X) (k : Nat) (L2 : tw_L) {x : Int32} {lo nn q pc2 a2 b2 c2 : Nat} {n2 : Int} {v2 : Int32} (hlo : lo ≤ k) (hi : t[ix]? = some (pc, 43, a, b, c, n, v)) (hi2 : t[ix + 1]? = some (pc2, 30, a2, b2, c2, n2, v2)) (hx : x = nI nn) (hf : ft a2 b2 = 2) (hc : ck_arr Lf L L2 a nn k q a2 b2 = true) (k0 : X (ix + 1 + 1) ls st L2 (zr f lo (k + 1))) : X ix ls (tw_I x :: tw_R q :: st) L (zr f lo k) := by
  refine zq_arr h k L2 hi hi2 hx hf hc ?_
  rw [zr_z f lo k hlo]
  exact k0
def mM1 (g : tw_S) (i : Nat) : tw_S := fun c j => if (c = 62 ∨ c = 63) ∧ j < i then 1 else zr g 62 108 c j
def mM2 (g : tw_S) (i : Nat) : tw_S := fun c j => if (c = 66 ∨ c = 67 ∨ c = 68) ∧ j < i then 1 else if c = 69 ∧ j < 3 * i ∧ j % 3 = 0 then 1 else if (c = 80 ∨ c = 87) ∧ j < i then -1 else mM1 g 5 c j
set_option maxRecDepth 20000 in
theorem n_M {d : Nat} {f : tw_S} {P : tw_S → Option tw_A → Prop} (hz : ∀ j, f 61 j = 0) (hP : P (mM2 f 2) none) : tw_Sp tx_mt tx_sw tx_ft true (d + 1) 109 [tw_R 61] (tx_Lp 62 []) f (tx_Lp 108 []) P := by
  refine tw_Sp_of rfl rfl (Nat.le_of_ble_eq_true rfl) (fun X h => ?_)
  refine zi_aload_n h rfl rfl ?_
  refine zi_objInit h rfl ?_
  refine zi_aload_n h rfl rfl ?_
  refine zn_iconst h 0 rfl rfl ?_
  refine zq_put h rfl (Or.inl rfl) (by decide +kernel) ?_
  refine tw_mem (g := zr f 62 62) (fun c j => ?_) ?_
  · rw [zr_off (by omega)]
    unfold tw_up
    split
    · next e => rw [e.1, hz]; rfl
    · rfl
  refine zi_aload_n h rfl rfl ?_
  refine zn_iconst h 5 rfl rfl ?_
  refine zq_arz h 62 (tx_Lp 63 []) (Nat.le_of_ble_eq_true rfl) rfl rfl rfl rfl (by decide +kernel) ?_
  refine zi_aload_n h rfl rfl ?_
  refine zn_iconst h 5 rfl rfl ?_
  refine zq_arz h 63 (tx_Lp 64 []) (Nat.le_of_ble_eq_true rfl) rfl rfl rfl rfl (by decide +kernel) ?_
  refine zi_aload_n h rfl rfl ?_
  refine zn_bipush h 40 rfl rfl ?_
  refine zq_arz h 64 (tx_Lp 65 []) (Nat.le_of_ble_eq_true rfl) rfl rfl rfl rfl (by decide +kernel) ?_
  show X 17 _ _ _ (zr _ 62 65)
  refine zi_aload_n h rfl rfl ?_
  refine zn_bipush h 40 rfl rfl ?_
  refine zq_arz h 65 (tx_Lp 66 []) (Nat.le_of_ble_eq_true rfl) rfl rfl rfl rfl (by decide +kernel) ?_
  refine zi_aload_n h rfl rfl ?_
  refine zn_iconst h 2 rfl rfl ?_
  refine zq_arz h 66 (tx_Lp 67 []) (Nat.le_of_ble_eq_true rfl) rfl rfl rfl rfl (by decide +kernel) ?_
  refine zi_aload_n h rfl rfl ?_
  refine zn_iconst h 2 rfl rfl ?_
  refine zq_arz h 67 (tx_Lp 68 []) (Nat.le_of_ble_eq_true rfl) rfl rfl rfl rfl (by decide +kernel) ?_
  show X 29 _ _ _ (zr _ 62 68)
  refine zi_aload_n h rfl rfl ?_
  refine zn_iconst h 2 rfl rfl ?_
  refine zq_arz h 68 (tx_Lp 69 []) (Nat.le_of_ble_eq_true rfl) rfl rfl rfl rfl (by decide +kernel) ?_
  refine zi_aload_n h rfl rfl ?_
  refine zn_iconst h 4 rfl rfl ?_
  refine zq_arz h 69 (tx_Lp 70 []) (Nat.le_of_ble_eq_true rfl) rfl rfl rfl rfl (by decide +kernel) ?_
  refine zi_aload_n h rfl rfl ?_
  refine zn_bipush h 64 rfl rfl ?_
  refine zq_arz h 70 (tx_Lp 71 []) (Nat.le_of_ble_eq_true rfl) rfl rfl rfl rfl (by decide +kernel) ?_
  show X 41 _ _ _ (zr _ 62 71)
  refine zi_aload_n h rfl rfl ?_
  refine zn_bipush h 64 rfl rfl ?_
  refine zq_arz h 71 (tx_Lp 72 []) (Nat.le_of_ble_eq_true rfl) rfl rfl rfl rfl (by decide +kernel) ?_
  refine zi_aload_n h rfl rfl ?_
  refine zn_bipush h 64 rfl rfl ?_
  refine zq_arz h 72 (tx_Lp 73 []) (Nat.le_of_ble_eq_true rfl) rfl rfl rfl rfl (by decide +kernel) ?_
  refine zi_aload_n h rfl rfl ?_
  refine zn_bipush h 64 rfl rfl ?_
  refine zq_arz h 73 (tx_Lp 74 []) (Nat.le_of_ble_eq_true rfl) rfl rfl rfl rfl (by decide +kernel) ?_
  show X 53 _ _ _ (zr _ 62 74)
  refine zi_aload_n h rfl rfl ?_
  refine zn_bipush h 64 rfl rfl ?_
  refine zq_arz h 74 (tx_Lp 75 []) (Nat.le_of_ble_eq_true rfl) rfl rfl rfl rfl (by decide +kernel) ?_
  refine zi_aload_n h rfl rfl ?_
  refine zn_bipush h 64 rfl rfl ?_
  refine zq_arz h 75 (tx_Lp 76 []) (Nat.le_of_ble_eq_true rfl) rfl rfl rfl rfl (by decide +kernel) ?_
  refine zi_aload_n h rfl rfl ?_
  refine zn_bipush h 64 rfl rfl ?_
  refine zq_arz h 76 (tx_Lp 77 []) (Nat.le_of_ble_eq_true rfl) rfl rfl rfl rfl (by decide +kernel) ?_
  show X 65 _ _ _ (zr _ 62 77)
  refine zi_aload_n h rfl rfl ?_
  refine zn_bipush h 16 rfl rfl ?_
  refine zq_arz h 77 (tx_Lp 78 []) (Nat.le_of_ble_eq_true rfl) rfl rfl rfl rfl (by decide +kernel) ?_
  refine zi_aload_n h rfl rfl ?_
  refine zn_bipush h 16 rfl rfl ?_
  refine zq_arz h 78 (tx_Lp 79 []) (Nat.le_of_ble_eq_true rfl) rfl rfl rfl rfl (by decide +kernel) ?_
  refine zi_aload_n h rfl rfl ?_
  refine zn_bipush h 16 rfl rfl ?_
  refine zq_arz h 79 (tx_Lp 80 []) (Nat.le_of_ble_eq_true rfl) rfl rfl rfl rfl (by decide +kernel) ?_
  show X 77 _ _ _ (zr _ 62 80)
  refine zi_aload_n h rfl rfl ?_
  refine zn_iconst h 2 rfl rfl ?_
  refine zq_arz h 80 (tx_Lp 81 []) (Nat.le_of_ble_eq_true rfl) rfl rfl rfl rfl (by decide +kernel) ?_
  refine zi_aload_n h rfl rfl ?_
  refine zn_iconst h 2 rfl rfl ?_
  refine zq_arz h 81 (tx_Lp 82 []) (Nat.le_of_ble_eq_true rfl) rfl rfl rfl rfl (by decide +kernel) ?_
  refine zi_aload_n h rfl rfl ?_
  refine zn_iconst h 2 rfl rfl ?_
  refine zq_arz h 82 (tx_Lp 83 []) (Nat.le_of_ble_eq_true rfl) rfl rfl rfl rfl (by decide +kernel) ?_
  show X 89 _ _ _ (zr _ 62 83)
  refine zi_aload_n h rfl rfl ?_
  refine zn_iconst h 2 rfl rfl ?_
  refine zq_arz h 83 (tx_Lp 84 []) (Nat.le_of_ble_eq_true rfl) rfl rfl rfl rfl (by decide +kernel) ?_
  refine zi_aload_n h rfl rfl ?_
  refine zn_iconst h 2 rfl rfl ?_
  refine zq_arz h 84 (tx_Lp 85 []) (Nat.le_of_ble_eq_true rfl) rfl rfl rfl rfl (by decide +kernel) ?_
  refine zi_aload_n h rfl rfl ?_
  refine zn_iconst h 2 rfl rfl ?_
  refine zq_arz h 85 (tx_Lp 86 []) (Nat.le_of_ble_eq_true rfl) rfl rfl rfl rfl (by decide +kernel) ?_
  show X 101 _ _ _ (zr _ 62 86)
  refine zi_aload_n h rfl rfl ?_
  refine zn_iconst h 2 rfl rfl ?_
  refine zq_arz h 86 (tx_Lp 87 []) (Nat.le_of_ble_eq_true rfl) rfl rfl rfl rfl (by decide +kernel) ?_
  refine zi_aload_n h rfl rfl ?_
  refine zn_iconst h 2 rfl rfl ?_
  refine zq_arz h 87 (tx_Lp 88 []) (Nat.le_of_ble_eq_true rfl) rfl rfl rfl rfl (by decide +kernel) ?_
  refine zi_aload_n h rfl rfl ?_
  refine zn_iconst h 2 rfl rfl ?_
  refine zq_arz h 88 (tx_Lp 89 []) (Nat.le_of_ble_eq_true rfl) rfl rfl rfl rfl (by decide +kernel) ?_
  show X 113 _ _ _ (zr _ 62 89)
  refine zi_aload_n h rfl rfl ?_
  refine zn_bipush h 8 rfl rfl ?_
  refine zq_arz h 89 (tx_Lp 90 []) (Nat.le_of_ble_eq_true rfl) rfl rfl rfl rfl (by decide +kernel) ?_
  refine zi_aload_n h rfl rfl ?_
  refine zn_bipush h 8 rfl rfl ?_
  refine zq_arz h 90 (tx_Lp 91 []) (Nat.le_of_ble_eq_true rfl) rfl rfl rfl rfl (by decide +kernel) ?_
  refine zi_aload_n h rfl rfl ?_
  refine zn_bipush h 8 rfl rfl ?_
  refine zq_arz h 91 (tx_Lp 92 []) (Nat.le_of_ble_eq_true rfl) rfl rfl rfl rfl (by decide +kernel) ?_
  show X 125 _ _ _ (zr _ 62 92)
  refine zi_aload_n h rfl rfl ?_
  refine zn_iconst h 2 rfl rfl ?_
  refine zq_arz h 92 (tx_Lp 93 []) (Nat.le_of_ble_eq_true rfl) rfl rfl rfl rfl (by decide +kernel) ?_
  refine zi_aload_n h rfl rfl ?_
  refine zn_iconst h 2 rfl rfl ?_
  refine zq_arz h 93 (tx_Lp 94 []) (Nat.le_of_ble_eq_true rfl) rfl rfl rfl rfl (by decide +kernel) ?_
  refine zi_aload_n h rfl rfl ?_
  refine zn_iconst h 2 rfl rfl ?_
  refine zq_arz h 94 (tx_Lp 95 []) (Nat.le_of_ble_eq_true rfl) rfl rfl rfl rfl (by decide +kernel) ?_
  show X 137 _ _ _ (zr _ 62 95)
  refine zi_aload_n h rfl rfl ?_
  refine zn_iconst h 2 rfl rfl ?_
  refine zq_arz h 95 (tx_Lp 96 []) (Nat.le_of_ble_eq_true rfl) rfl rfl rfl rfl (by decide +kernel) ?_
  refine zi_aload_n h rfl rfl ?_
  refine zn_iconst h 2 rfl rfl ?_
  refine zq_arz h 96 (tx_Lp 97 []) (Nat.le_of_ble_eq_true rfl) rfl rfl rfl rfl (by decide +kernel) ?_
  refine zi_aload_n h rfl rfl ?_
  refine zn_sipush h 400 rfl rfl ?_
  refine zq_arz h 97 (tx_Lp 98 []) (Nat.le_of_ble_eq_true rfl) rfl rfl rfl rfl (by decide +kernel) ?_
  show X 149 _ _ _ (zr _ 62 98)
  refine zi_aload_n h rfl rfl ?_
  refine zn_iconst h 2 rfl rfl ?_
  refine zq_arz h 98 (tx_Lp 99 []) (Nat.le_of_ble_eq_true rfl) rfl rfl rfl rfl (by decide +kernel) ?_
  refine zi_aload_n h rfl rfl ?_
  refine zn_iconst h 0 rfl rfl ?_
  refine zq_put h rfl (Or.inr ⟨rfl, Or.inl rfl⟩) (by decide +kernel) ?_
  refine tw_mem (g := zr f 62 99) (up_61 hz (by omega)) ?_
  refine zi_aload_n h rfl rfl ?_
  refine zn_iconst h 0 rfl rfl ?_
  refine zq_put h rfl (Or.inl rfl) (by decide +kernel) ?_
  refine tw_mem (g := zr f 62 99) (up_61 hz (by omega)) ?_
  refine zi_aload_n h rfl rfl ?_
  refine zn_sipush h 200 rfl rfl ?_
  refine zq_arz h 99 (tx_Lp 100 []) (Nat.le_of_ble_eq_true rfl) rfl rfl rfl rfl (by decide +kernel) ?_
  refine zi_aload_n h rfl rfl ?_
  refine zn_sipush h 200 rfl rfl ?_
  refine zq_arz h 100 (tx_Lp 101 []) (Nat.le_of_ble_eq_true rfl) rfl rfl rfl rfl (by decide +kernel) ?_
  show X 167 _ _ _ (zr _ 62 101)
  refine zi_aload_n h rfl rfl ?_
  refine zn_sipush h 200 rfl rfl ?_
  refine zq_arz h 101 (tx_Lp 102 []) (Nat.le_of_ble_eq_true rfl) rfl rfl rfl rfl (by decide +kernel) ?_
  refine zi_aload_n h rfl rfl ?_
  refine zn_sipush h 200 rfl rfl ?_
  refine zq_arz h 102 (tx_Lp 103 []) (Nat.le_of_ble_eq_true rfl) rfl rfl rfl rfl (by decide +kernel) ?_
  refine zi_aload_n h rfl rfl ?_
  refine zn_sipush h 200 rfl rfl ?_
  refine zq_arz h 103 (tx_Lp 104 []) (Nat.le_of_ble_eq_true rfl) rfl rfl rfl rfl (by decide +kernel) ?_
  show X 179 _ _ _ (zr _ 62 104)
  refine zi_aload_n h rfl rfl ?_
  refine zn_iconst h 0 rfl rfl ?_
  refine zq_put h rfl (Or.inl rfl) (by decide +kernel) ?_
  refine tw_mem (g := zr f 62 104) (up_61 hz (by omega)) ?_
  refine zi_aload_n h rfl rfl ?_
  refine zn_bipush h 20 rfl rfl ?_
  refine zq_arz h 104 (tx_Lp 105 []) (Nat.le_of_ble_eq_true rfl) rfl rfl rfl rfl (by decide +kernel) ?_
  refine zi_aload_n h rfl rfl ?_
  refine zn_bipush h 20 rfl rfl ?_
  refine zq_arz h 105 (tx_Lp 106 []) (Nat.le_of_ble_eq_true rfl) rfl rfl rfl rfl (by decide +kernel) ?_
  refine zi_aload_n h rfl rfl ?_
  refine zn_bipush h 20 rfl rfl ?_
  refine zq_arz h 106 (tx_Lp 107 []) (Nat.le_of_ble_eq_true rfl) rfl rfl rfl rfl (by decide +kernel) ?_
  show X 194 _ _ _ (zr _ 62 107)
  refine zi_aload_n h rfl rfl ?_
  refine zn_bipush h 20 rfl rfl ?_
  refine zq_arz h 107 (tx_Lp 108 []) (Nat.le_of_ble_eq_true rfl) rfl rfl rfl rfl (by decide +kernel) ?_
  refine zn_iconst h 0 rfl rfl ?_
  refine zi_istore_n h rfl (Nat.le_of_ble_eq_true rfl) ?_
  have l61 : (tx_Lp 108 [])[61]? = some (9, 50, [none, some 62, some 63, some 64, some 65, some 66, some 67, some 68, some 69, some 70, some 71, some 72, some 73, some 74, some 75, some 76, some 77, some 78, some 79, some 80, some 81, some 82, some 83, some 84, some 85, some 86, some 87, some 88, some 89, some 90, some 91, some 92, some 93, some 94, some 95, some 96, some 97, some 98, none, none, some 99, some 100, some 101, some 102, some 103, none, some 104, some 105, some 106, some 107]) := by decide +kernel
  have l62 : (tx_Lp 108 [])[62]? = some (101, 5, []) := by decide +kernel
  have l63 : (tx_Lp 108 [])[63]? = some (100, 5, []) := by decide +kernel
  have l66 : (tx_Lp 108 [])[66]? = some (101, 2, []) := by decide +kernel
  have l67 : (tx_Lp 108 [])[67]? = some (100, 2, []) := by decide +kernel
  have l68 : (tx_Lp 108 [])[68]? = some (101, 2, []) := by decide +kernel
  have l69 : (tx_Lp 108 [])[69]? = some (101, 4, []) := by decide +kernel
  have l80 : (tx_Lp 108 [])[80]? = some (100, 2, []) := by decide +kernel
  have l87 : (tx_Lp 108 [])[87]? = some (100, 2, []) := by decide +kernel
  have key2 : ∀ m i : Nat, i + m = 2 → X 217 [some (tw_R 61), some (tw_I (nI i))] [] (tx_Lp 108 []) (mM2 f i) := by
    intro m
    induction m with
    | zero =>
      intro i hi
      obtain rfl : i = 2 := by omega
      refine zi_iload_n h rfl rfl ?_
      refine zn_iconst h 2 rfl rfl ?_
      refine zn_icmpge h rfl (by omega) (by omega) (fun hc => ?_) (fun hc => absurd hc (by omega))
      refine zi_vret h rfl ?_
      exact hP
    | succ m ih =>
      intro i hi
      refine zi_iload_n h rfl rfl ?_
      refine zn_iconst h 2 rfl rfl ?_
      refine zn_icmpge h rfl (by omega) (by omega) (fun hc => absurd hc (by omega)) (fun hc => ?_)
      refine zi_aload_n h rfl rfl ?_
      refine zg_ref h rfl l61 (by decide) rfl rfl ?_
      refine zi_iload_n h rfl rfl ?_
      refine zn_iconst h 1 rfl rfl ?_
      refine zs_z h rfl l66 rfl (by omega) (by decide) (Or.inr rfl) ?_
      refine zi_aload_n h rfl rfl ?_
      refine zg_ref h rfl l61 (by decide) rfl rfl ?_
      refine zi_iload_n h rfl rfl ?_
      refine zn_iconst h 1 rfl rfl ?_
      refine zs_i h rfl l67 rfl (by omega) (by decide) ?_
      refine zi_aload_n h rfl rfl ?_
      refine zg_ref h rfl l61 (by decide) rfl rfl ?_
      refine zi_iload_n h rfl rfl ?_
      refine zn_iconst h 1 rfl rfl ?_
      refine zs_z h rfl l68 rfl (by omega) (by decide) (Or.inr rfl) ?_
      refine zi_aload_n h rfl rfl ?_
      refine zg_ref h rfl l61 (by decide) rfl rfl ?_
      refine zn_iconst h 3 rfl rfl ?_
      refine zi_iload_n h rfl rfl ?_
      first | refine zn_imul h rfl ?_ | refine zi_imul h rfl ?_
      refine zn_iconst h 1 rfl rfl ?_
      refine zs_z h rfl l69 rfl (by omega) (by decide) (Or.inr rfl) ?_
      refine zi_aload_n h rfl rfl ?_
      refine zg_ref h rfl l61 (by decide) rfl rfl ?_
      refine zi_iload_n h rfl rfl ?_
      refine zi_iconst h rfl ?_
      refine zs_i h rfl l80 rfl (by omega) (by decide) ?_
      refine zi_aload_n h rfl rfl ?_
      refine zg_ref h rfl l61 (by decide) rfl rfl ?_
      refine zi_iload_n h rfl rfl ?_
      refine zi_iconst h rfl ?_
      refine zs_i h rfl l87 rfl (by omega) (by decide) ?_
      first | refine zn_iinc h 1 rfl rfl rfl ?_ | refine zi_iinc h rfl rfl ?_
      refine zi_goto h rfl ?_
      refine tw_mem (fun c j => ?_) (ih (i + 1) (by omega))
      simp only [tw_up, mM2, tw_n1]
      (repeat' split) <;> first | rfl | omega
  have key1 : ∀ m i : Nat, i + m = 5 → X 200 [some (tw_R 61), some (tw_I (nI i))] [] (tx_Lp 108 []) (mM1 f i) := by
    intro m
    induction m with
    | zero =>
      intro i hi
      obtain rfl : i = 5 := by omega
      refine zi_iload_n h rfl rfl ?_
      refine zn_iconst h 5 rfl rfl ?_
      refine zn_icmpge h rfl (by omega) (by omega) (fun hc => ?_) (fun hc => absurd hc (by omega))
      refine zn_iconst h 0 rfl rfl ?_
      refine zi_istore_n h rfl (Nat.le_of_ble_eq_true rfl) ?_
      refine tw_mem (fun c j => ?_) (key2 2 0 (by omega))
      simp only [mM2]
      (repeat' split) <;> first | rfl | omega
    | succ m ih =>
      intro i hi
      refine zi_iload_n h rfl rfl ?_
      refine zn_iconst h 5 rfl rfl ?_
      refine zn_icmpge h rfl (by omega) (by omega) (fun hc => absurd hc (by omega)) (fun hc => ?_)
      refine zi_aload_n h rfl rfl ?_
      refine zg_ref h rfl l61 (by decide) rfl rfl ?_
      refine zi_iload_n h rfl rfl ?_
      refine zn_iconst h 1 rfl rfl ?_
      refine zs_z h rfl l62 rfl (by omega) (by decide) (Or.inr rfl) ?_
      refine zi_aload_n h rfl rfl ?_
      refine zg_ref h rfl l61 (by decide) rfl rfl ?_
      refine zi_iload_n h rfl rfl ?_
      refine zn_iconst h 1 rfl rfl ?_
      refine zs_i h rfl l63 rfl (by omega) (by decide) ?_
      first | refine zn_iinc h 1 rfl rfl rfl ?_ | refine zi_iinc h rfl rfl ?_
      refine zi_goto h rfl ?_
      refine tw_mem (fun c j => ?_) (ih (i + 1) (by omega))
      simp only [tw_up, mM1, tw_n1]
      (repeat' split) <;> first | rfl | omega
  refine tw_mem (fun c j => ?_) (key1 5 0 (by omega))
  simp only [mM1]
  (repeat' split) <;> first | rfl | omega
theorem tx_Lp109 : tx_Lp 109 [] = tx_L0 := by decide +kernel
/-- behind the constructors the relation holds -/
def m0 (f : tw_S) : tw_S := fun c j => if c < 61 then m0T (fun _ _ => 0) c j else if c < 108 then mM2 (fun _ _ => 0) 2 c j else f c j
theorem m0_zT {f : tw_S} {c j : Nat} (h : (17 < c ∧ c < 39 ∧ c ≠ 34) ∨ (39 < c ∧ c < 61 ∧ c ≠ 56)) : m0 f c j = 0 := by
  unfold m0 m0T mCk
  rcases h with h | h
  · rw [if_pos (by omega), if_neg (by omega), if_pos (by omega), if_neg (by omega), if_neg (by omega), if_neg (by omega), if_neg (by omega)]
  · rw [if_pos (by omega), if_neg (by omega), if_neg (by omega), if_pos (by omega), if_neg (by omega), if_neg (by omega), if_neg (by omega), if_neg (by omega)]
theorem m0_zM {f : tw_S} {c j : Nat} (h : 69 < c ∧ c < 108 ∧ c ≠ 80 ∧ c ≠ 87) : m0 f c j = 0 := by
  unfold m0 mM2 mM1 zr
  rw [if_neg (by omega), if_pos (by omega), if_neg (by omega), if_neg (by omega), if_neg (by omega), if_neg (by omega), if_pos (by omega)]
theorem m0_D {f : tw_S} {c c2 : Nat} (h : c2 = c + 60) (h2 : 2 ≤ c ∧ c < 6) : m0 f c2 = m0 f c := by
  funext j
  subst h
  unfold m0 m0T mM2 mM1 zr
  rw [if_neg (by omega), if_pos (by omega), if_neg (by omega), if_neg (by omega), if_neg (by omega)]
  (repeat' split) <;> first | rfl | omega
theorem p_bits0 {g : Nat → Int32} (h : ∀ s, g s = 0) : ∀ n, p_bits g n = 0
  | 0 => rfl
  | n + 1 => by
    unfold p_bits
    rw [if_pos (h n)]
    exact p_bits0 h n
theorem m0_b0 (f : tw_S) : m0 f 17 11 = p_bits (fun v => m0 f 69 (2 * 0 + v)) 2 := by
  have e0 : m0 f 69 (2 * 0 + 0) = 1 := rfl
  have e1 : m0 f 69 (2 * 0 + 1) = 0 := rfl
  show nI 1 = _
  simp only [p_bits, e0, e1]
  decide
theorem m0_b1 (f : tw_S) : m0 f 39 11 = p_bits (fun v => m0 f 69 (2 * 1 + v)) 2 := by
  have e0 : m0 f 69 (2 * 1 + 0) = 0 := rfl
  have e1 : m0 f 69 (2 * 1 + 1) = 1 := rfl
  show nI 2 = _
  simp only [p_bits, e0, e1]
  decide
theorem rR_m0 (f : tw_S) : rR (m0 f) (m0 f) 0 := by
  refine ⟨⟨m0_D rfl (by omega), m0_D rfl (by omega), m0_D rfl (by omega), m0_D rfl (by omega)⟩, ⟨0, by omega, rfl, rfl, fun k hk => absurd hk (by omega)⟩, ⟨by omega, rfl, rfl, fun k hk => absurd hk (by omega)⟩, rfl, fun c hc => ?_, fun c hc => ?_, fun c hc => ?_, fun c hc => ?_, fun c hc => ?_⟩
  · rcases (by omega : c = 0 ∨ c = 1) with rfl | rfl
    · exact ⟨rfl, rfl, rfl, rfl, rfl, rfl, m0_b0 f, (p_bits0 (fun s => m0_zM (by omega)) 8).symm, (p_bits0 (fun s => m0_zM (by omega)) 8).symm, (p_bits0 (fun s => m0_zM (by omega)) 8).symm, rfl, fun _ => ⟨0, by omega, rfl⟩, rfl, fun h => absurd rfl h⟩
    · exact ⟨rfl, rfl, rfl, rfl, rfl, rfl, m0_b1 f, (p_bits0 (fun s => m0_zM (by omega)) 8).symm, (p_bits0 (fun s => m0_zM (by omega)) 8).symm, (p_bits0 (fun s => m0_zM (by omega)) 8).symm, rfl, fun _ => ⟨0, by omega, rfl⟩, rfl, fun h => absurd rfl h⟩
  · intro j hj
    rcases (by omega : c = 0 ∨ c = 1) with rfl | rfl
    · refine ⟨?_, ?_, fun h => absurd (m0_zT (by omega)) h, fun h => absurd (m0_zT (by omega)) h, ?_, fun h => absurd (m0_zT (by omega)) h⟩
      · rw [m0_zM (by omega), m0_zT (by omega)]
      · rw [m0_zM (by omega), m0_zT (by omega)]
      · rw [m0_zM (by omega), m0_zT (by omega)]
    · refine ⟨?_, ?_, fun h => absurd (m0_zT (by omega)) h, fun h => absurd (m0_zT (by omega)) h, ?_, fun h => absurd (m0_zT (by omega)) h⟩
      · rw [m0_zM (by omega), m0_zT (by omega)]
      · rw [m0_zM (by omega), m0_zT (by omega)]
      · rw [m0_zM (by omega), m0_zT (by omega)]
  · rcases (by omega : c = 0 ∨ c = 1) with rfl | rfl
    · exact ⟨0, 0, by omega, by omega, m0_zT (by omega), m0_zT (by omega), m0_zM (by omega), fun i hi => absurd hi (by omega)⟩
    · exact ⟨0, 0, by omega, by omega, m0_zT (by omega), m0_zT (by omega), m0_zM (by omega), fun i hi => absurd hi (by omega)⟩
  · rcases (by omega : c = 0 ∨ c = 1) with rfl | rfl
    · exact ⟨rfl, Or.inl rfl⟩
    · exact ⟨rfl, Or.inl rfl⟩
  · rcases (by omega : c = 0 ∨ c = 1) with rfl | rfl
    · exact Or.inl ⟨m0_zT (by omega), rfl⟩
    · exact Or.inl ⟨m0_zT (by omega), rfl⟩
theorem rR_new {f : tw_S} (hT : ∀ c j, c < 61 → f c j = m0T (fun _ _ => 0) c j) (hM : ∀ c j, 61 ≤ c → c < 108 → f c j = mM2 (fun _ _ => 0) 2 c j) : rR f f 0 := by
  refine rR_ext (x := m0 f) (y := m0 f) (fun a b h => ?_) (fun a b h _ => ?_) (rR_m0 f)
  · unfold m0
    rw [if_pos h]
    exact hT a b h
  · unfold m0
    by_cases h2 : a < 108
    · rw [if_neg (by omega), if_pos h2]
      exact hM a b h h2
    · rw [if_neg (by omega), if_neg h2]
