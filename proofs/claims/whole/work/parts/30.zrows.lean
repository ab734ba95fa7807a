/-! The rules once more, in the forms that proofs use: fields and arrays by their kinds, numbers as nI of a natural number, branches by plain conditions. -/
section ZR
variable {mt : List tw_MR} {sw : tw_SW} {ft : Nat → Nat → Nat} {fl : Bool} {xs : Option (Nat × (Nat → Int32))} {Sp : tw_SP} {Lf : tw_L} {P : tw_S → Option tw_A → Prop} {t : tw_T} {X : tw_X} {ix pc a b c : Nat} {n : Int} {v : Int32} {ls : List (Option tw_A)} {st : List tw_A} {L : tw_L} {f : tw_S}
theorem zg_ref (h : tw_Cl mt sw ft fl xs Sp Lf P t X) {q nn q2 : Nat} {rs : List (Option Nat)} (hi : t[ix]? = some (pc, 27, a, b, c, n, v)) (hL : L[q]? = some (a, nn, rs)) (hb : b < nn) (ht : ft a b = 2) (hr : rs.getD b none = some q2) (k : X (ix + 1) ls (tw_R q2 :: st) L f) : X ix ls (tw_R q :: st) L f := by
  refine zi_getf h hi hL hb ?_
  rw [ht, hr]
  exact k
theorem zg_int (h : tw_Cl mt sw ft fl xs Sp Lf P t X) {q nn : Nat} {rs : List (Option Nat)} (hi : t[ix]? = some (pc, 27, a, b, c, n, v)) (hL : L[q]? = some (a, nn, rs)) (hb : b < nn) (ht : ft a b = 0) (k : X (ix + 1) ls (tw_I (f q b) :: st) L f) : X ix ls (tw_R q :: st) L f := by
  refine zi_getf h hi hL hb ?_
  rw [ht]
  exact k
theorem zg_nat (h : tw_Cl mt sw ft fl xs Sp Lf P t X) (m : Nat) {q nn : Nat} {rs : List (Option Nat)} (hi : t[ix]? = some (pc, 27, a, b, c, n, v)) (hL : L[q]? = some (a, nn, rs)) (hb : b < nn) (ht : ft a b = 0) (hv : f q b = nI m) (k : X (ix + 1) ls (tw_I (nI m) :: st) L f) : X ix ls (tw_R q :: st) L f := by
  refine zg_int h hi hL hb ht ?_
  rw [hv]
  exact k
theorem zg_boo (h : tw_Cl mt sw ft fl xs Sp Lf P t X) {q nn : Nat} {rs : List (Option Nat)} (hi : t[ix]? = some (pc, 27, a, b, c, n, v)) (hL : L[q]? = some (a, nn, rs)) (hb : b < nn) (ht : ft a b = 1) (k : X (ix + 1) ls (tw_I (tw_nz (f q b)) :: st) L f) : X ix ls (tw_R q :: st) L f := by
  refine zi_getf h hi hL hb ?_
  rw [ht]
  exact k
theorem zp_int (h : tw_Cl mt sw ft fl xs Sp Lf P t X) {x : Int32} {q nn : Nat} {rs : List (Option Nat)} (hi : t[ix]? = some (pc, 28, a, b, c, n, v)) (hL : L[q]? = some (a, nn, rs)) (hb : b < nn) (ht : ft a b = 0) (k : X (ix + 1) ls st L (tw_up f q b x)) : X ix ls (tw_I x :: tw_R q :: st) L f := zi_putf h hi hL hb (Or.inl ht) k
theorem zp_boo (h : tw_Cl mt sw ft fl xs Sp Lf P t X) {x : Int32} {q nn : Nat} {rs : List (Option Nat)} (hi : t[ix]? = some (pc, 28, a, b, c, n, v)) (hL : L[q]? = some (a, nn, rs)) (hb : b < nn) (ht : ft a b = 1) (hx : x = 0 ∨ x = 1) (k : X (ix + 1) ls st L (tw_up f q b x)) : X ix ls (tw_I x :: tw_R q :: st) L f := zi_putf h hi hL hb (Or.inr ⟨ht, hx⟩) k
theorem za_i (h : tw_Cl mt sw ft fl xs Sp Lf P t X) {x : Int32} {q nn i : Nat} {rs : List (Option Nat)} (hi : t[ix]? = some (pc, 31, a, b, c, n, v)) (hL : L[q]? = some (100, nn, rs)) (hx : x = nI i) (hlt : i < nn) (hn : nn < 4096) (k : X (ix + 1) ls (tw_I (f q i) :: st) L f) : X ix ls (tw_I x :: tw_R q :: st) L f := by
  subst hx
  refine zi_iaload h hi hL (vp_in_nI hlt (by omega)) ?_
  rw [nI_clamp (by omega)]
  exact k
theorem za_n (h : tw_Cl mt sw ft fl xs Sp Lf P t X) (m : Nat) {x : Int32} {q nn i : Nat} {rs : List (Option Nat)} (hi : t[ix]? = some (pc, 31, a, b, c, n, v)) (hL : L[q]? = some (100, nn, rs)) (hx : x = nI i) (hlt : i < nn) (hn : nn < 4096) (hv : f q i = nI m) (k : X (ix + 1) ls (tw_I (nI m) :: st) L f) : X ix ls (tw_I x :: tw_R q :: st) L f := by
  refine za_i h hi hL hx hlt hn ?_
  rw [hv]
  exact k
theorem za_z (h : tw_Cl mt sw ft fl xs Sp Lf P t X) {x : Int32} {q nn i : Nat} {rs : List (Option Nat)} (hi : t[ix]? = some (pc, 32, a, b, c, n, v)) (hL : L[q]? = some (101, nn, rs)) (hx : x = nI i) (hlt : i < nn) (hn : nn < 4096) (k : X (ix + 1) ls (tw_I (tw_nz (f q i)) :: st) L f) : X ix ls (tw_I x :: tw_R q :: st) L f := by
  subst hx
  refine zi_baload h hi hL (vp_in_nI hlt (by omega)) ?_
  rw [nI_clamp (by omega)]
  exact k
theorem zs_i (h : tw_Cl mt sw ft fl xs Sp Lf P t X) {x y : Int32} {q nn i : Nat} {rs : List (Option Nat)} (hi : t[ix]? = some (pc, 33, a, b, c, n, v)) (hL : L[q]? = some (100, nn, rs)) (hx : x = nI i) (hlt : i < nn) (hn : nn < 4096) (k : X (ix + 1) ls st L (tw_up f q i y)) : X ix ls (tw_I y :: tw_I x :: tw_R q :: st) L f := by
  subst hx
  refine zi_iastore h hi hL (vp_in_nI hlt (by omega)) ?_
  rw [nI_clamp (by omega)]
  exact k
theorem zs_z (h : tw_Cl mt sw ft fl xs Sp Lf P t X) {x y : Int32} {q nn i : Nat} {rs : List (Option Nat)} (hi : t[ix]? = some (pc, 34, a, b, c, n, v)) (hL : L[q]? = some (101, nn, rs)) (hx : x = nI i) (hlt : i < nn) (hn : nn < 4096) (hy : y = 0 ∨ y = 1) (k : X (ix + 1) ls st L (tw_up f q i y)) : X ix ls (tw_I y :: tw_I x :: tw_R q :: st) L f := by
  subst hx
  refine zi_bastore h hi hL (vp_in_nI hlt (by omega)) hy ?_
  rw [nI_clamp (by omega)]
  exact k
theorem zn_iconst (h : tw_Cl mt sw ft fl xs Sp Lf P t X) (m : Nat) (hi : t[ix]? = some (pc, 4, a, b, c, n, v)) (hv : v = nI m) (k : X (ix + 1) ls (tw_I (nI m) :: st) L f) : X ix ls st L f := by
  refine zi_iconst h hi ?_
  rw [hv]
  exact k
theorem zn_bipush (h : tw_Cl mt sw ft fl xs Sp Lf P t X) (m : Nat) (hi : t[ix]? = some (pc, 5, a, b, c, n, v)) (hv : v = nI m) (k : X (ix + 1) ls (tw_I (nI m) :: st) L f) : X ix ls st L f := by
  refine zi_bipush h hi ?_
  rw [hv]
  exact k
theorem zn_sipush (h : tw_Cl mt sw ft fl xs Sp Lf P t X) (m : Nat) (hi : t[ix]? = some (pc, 6, a, b, c, n, v)) (hv : v = nI m) (k : X (ix + 1) ls (tw_I (nI m) :: st) L f) : X ix ls st L f := by
  refine zi_sipush h hi ?_
  rw [hv]
  exact k
theorem zn_iadd (h : tw_Cl mt sw ft fl xs Sp Lf P t X) {x y : Nat} (hi : t[ix]? = some (pc, 12, a, b, c, n, v)) (k : X (ix + 1) ls (tw_I (nI (x + y)) :: st) L f) : X ix ls (tw_I (nI y) :: tw_I (nI x) :: st) L f := by
  refine zi_iadd h hi ?_
  rw [nI_add]
  exact k
theorem zn_isub (h : tw_Cl mt sw ft fl xs Sp Lf P t X) {x y : Nat} (hi : t[ix]? = some (pc, 13, a, b, c, n, v)) (hxy : y ≤ x) (k : X (ix + 1) ls (tw_I (nI (x - y)) :: st) L f) : X ix ls (tw_I (nI y) :: tw_I (nI x) :: st) L f := by
  refine zi_isub h hi ?_
  rw [pk_sub hxy]
  exact k
theorem zn_imul (h : tw_Cl mt sw ft fl xs Sp Lf P t X) {x y : Nat} (hi : t[ix]? = some (pc, 14, a, b, c, n, v)) (k : X (ix + 1) ls (tw_I (nI (x * y)) :: st) L f) : X ix ls (tw_I (nI y) :: tw_I (nI x) :: st) L f := by
  refine zi_imul h hi ?_
  rw [pk_mul]
  exact k
theorem zn_idiv (h : tw_Cl mt sw ft fl xs Sp Lf P t X) {x y : Nat} (hi : t[ix]? = some (pc, 20, a, b, c, n, v)) (hx : x < 2 ^ 31) (hy : 0 < y) (hy2 : y < 2 ^ 31) (k : X (ix + 1) ls (tw_I (nI (x / y)) :: st) L f) : X ix ls (tw_I (nI y) :: tw_I (nI x) :: st) L f := by
  refine zi_idiv h hi (nI_ne0 hy hy2) ?_
  rw [pk_div hx hy hy2]
  exact k
theorem zn_irem (h : tw_Cl mt sw ft fl xs Sp Lf P t X) {x y : Nat} (hi : t[ix]? = some (pc, 21, a, b, c, n, v)) (hx : x < 2 ^ 31) (hy : 0 < y) (hy2 : y < 2 ^ 31) (k : X (ix + 1) ls (tw_I (nI (x % y)) :: st) L f) : X ix ls (tw_I (nI y) :: tw_I (nI x) :: st) L f := by
  refine zi_irem h hi (nI_ne0 hy hy2) ?_
  rw [pk_rem hx hy hy2]
  exact k
theorem zn_iinc (h : tw_Cl mt sw ft fl xs Sp Lf P t X) (y : Nat) {x : Nat} (hi : t[ix]? = some (pc, 11, a, b, c, n, v)) (hv : v = nI y) (hl : ls[a]? = some (some (tw_I (nI x)))) (k : X (ix + 1) (ls.set a (some (tw_I (nI (x + y))))) st L f) : X ix ls st L f := by
  subst hv
  refine zi_iinc h hi hl ?_
  rw [nI_add]
  exact k
theorem zc_ifeq (h : tw_Cl mt sw ft fl xs Sp Lf P t X) {x : Int32} (hi : t[ix]? = some (pc, 22, 0, b, c, n, v)) (kt : x = 0 → X b ls st L f) (kf : ¬ x = 0 → X (ix + 1) ls st L f) : X ix ls (tw_I x :: st) L f := zi_if h hi kt kf
theorem zc_ifne (h : tw_Cl mt sw ft fl xs Sp Lf P t X) {x : Int32} (hi : t[ix]? = some (pc, 22, 1, b, c, n, v)) (kt : ¬ x = 0 → X b ls st L f) (kf : x = 0 → X (ix + 1) ls st L f) : X ix ls (tw_I x :: st) L f := zi_if h hi kt (fun g => kf (Classical.byContradiction (fun u => g u)))
theorem zc_iflt (h : tw_Cl mt sw ft fl xs Sp Lf P t X) {x : Int32} (hi : t[ix]? = some (pc, 22, 2, b, c, n, v)) (kt : x < 0 → X b ls st L f) (kf : ¬ x < 0 → X (ix + 1) ls st L f) : X ix ls (tw_I x :: st) L f := zi_if h hi kt kf
theorem zc_ifge (h : tw_Cl mt sw ft fl xs Sp Lf P t X) {x : Int32} (hi : t[ix]? = some (pc, 22, 3, b, c, n, v)) (kt : 0 ≤ x → X b ls st L f) (kf : ¬ 0 ≤ x → X (ix + 1) ls st L f) : X ix ls (tw_I x :: st) L f := zi_if h hi kt kf
theorem zc_ifgt (h : tw_Cl mt sw ft fl xs Sp Lf P t X) {x : Int32} (hi : t[ix]? = some (pc, 22, 4, b, c, n, v)) (kt : 0 < x → X b ls st L f) (kf : ¬ 0 < x → X (ix + 1) ls st L f) : X ix ls (tw_I x :: st) L f := zi_if h hi kt kf
theorem zc_ifle (h : tw_Cl mt sw ft fl xs Sp Lf P t X) {x : Int32} (hi : t[ix]? = some (pc, 22, 5, b, c, n, v)) (kt : x ≤ 0 → X b ls st L f) (kf : ¬ x ≤ 0 → X (ix + 1) ls st L f) : X ix ls (tw_I x :: st) L f := zi_if h hi kt kf
theorem tw_nz0 {x : Int32} : tw_nz x = 0 ↔ x = 0 := by
  unfold tw_nz
  by_cases h : x = 0
  · simp [h]
  · simp [h]
theorem zb_ifeq (h : tw_Cl mt sw ft fl xs Sp Lf P t X) {x : Int32} (hi : t[ix]? = some (pc, 22, 0, b, c, n, v)) (kt : x = 0 → X b ls st L f) (kf : ¬ x = 0 → X (ix + 1) ls st L f) : X ix ls (tw_I (tw_nz x) :: st) L f := zc_ifeq h hi (fun g => kt (tw_nz0.mp g)) (fun g => kf (fun u => g (tw_nz0.mpr u)))
theorem zb_ifne (h : tw_Cl mt sw ft fl xs Sp Lf P t X) {x : Int32} (hi : t[ix]? = some (pc, 22, 1, b, c, n, v)) (kt : ¬ x = 0 → X b ls st L f) (kf : x = 0 → X (ix + 1) ls st L f) : X ix ls (tw_I (tw_nz x) :: st) L f := zc_ifne h hi (fun g => kt (fun u => g (tw_nz0.mpr u))) (fun g => kf (tw_nz0.mp g))
theorem zc_icmpeq (h : tw_Cl mt sw ft fl xs Sp Lf P t X) {x y : Int32} (hi : t[ix]? = some (pc, 23, 0, b, c, n, v)) (kt : x = y → X b ls st L f) (kf : ¬ x = y → X (ix + 1) ls st L f) : X ix ls (tw_I y :: tw_I x :: st) L f := zi_icmp h hi kt kf
theorem zc_icmpne (h : tw_Cl mt sw ft fl xs Sp Lf P t X) {x y : Int32} (hi : t[ix]? = some (pc, 23, 1, b, c, n, v)) (kt : ¬ x = y → X b ls st L f) (kf : x = y → X (ix + 1) ls st L f) : X ix ls (tw_I y :: tw_I x :: st) L f := zi_icmp h hi kt (fun g => kf (Classical.byContradiction (fun u => g u)))
theorem zc_icmplt (h : tw_Cl mt sw ft fl xs Sp Lf P t X) {x y : Int32} (hi : t[ix]? = some (pc, 23, 2, b, c, n, v)) (kt : x < y → X b ls st L f) (kf : ¬ x < y → X (ix + 1) ls st L f) : X ix ls (tw_I y :: tw_I x :: st) L f := zi_icmp h hi kt kf
theorem zc_icmpge (h : tw_Cl mt sw ft fl xs Sp Lf P t X) {x y : Int32} (hi : t[ix]? = some (pc, 23, 3, b, c, n, v)) (kt : y ≤ x → X b ls st L f) (kf : ¬ y ≤ x → X (ix + 1) ls st L f) : X ix ls (tw_I y :: tw_I x :: st) L f := zi_icmp h hi kt kf
theorem zc_icmpgt (h : tw_Cl mt sw ft fl xs Sp Lf P t X) {x y : Int32} (hi : t[ix]? = some (pc, 23, 4, b, c, n, v)) (kt : y < x → X b ls st L f) (kf : ¬ y < x → X (ix + 1) ls st L f) : X ix ls (tw_I y :: tw_I x :: st) L f := zi_icmp h hi kt kf
theorem zc_icmple (h : tw_Cl mt sw ft fl xs Sp Lf P t X) {x y : Int32} (hi : t[ix]? = some (pc, 23, 5, b, c, n, v)) (kt : x ≤ y → X b ls st L f) (kf : ¬ x ≤ y → X (ix + 1) ls st L f) : X ix ls (tw_I y :: tw_I x :: st) L f := zi_icmp h hi kt kf
theorem zn_icmpeq (h : tw_Cl mt sw ft fl xs Sp Lf P t X) {x y : Nat} (hi : t[ix]? = some (pc, 23, 0, b, c, n, v)) (hx : x < 2 ^ 31) (hy : y < 2 ^ 31) (kt : x = y → X b ls st L f) (kf : x ≠ y → X (ix + 1) ls st L f) : X ix ls (tw_I (nI y) :: tw_I (nI x) :: st) L f := zc_icmpeq h hi (fun g => kt ((nI_eq hx hy).mp g)) (fun g => kf (fun u => g ((nI_eq hx hy).mpr u)))
theorem zn_icmpne (h : tw_Cl mt sw ft fl xs Sp Lf P t X) {x y : Nat} (hi : t[ix]? = some (pc, 23, 1, b, c, n, v)) (hx : x < 2 ^ 31) (hy : y < 2 ^ 31) (kt : x ≠ y → X b ls st L f) (kf : x = y → X (ix + 1) ls st L f) : X ix ls (tw_I (nI y) :: tw_I (nI x) :: st) L f := zc_icmpne h hi (fun g => kt (fun u => g ((nI_eq hx hy).mpr u))) (fun g => kf ((nI_eq hx hy).mp g))
theorem zn_icmplt (h : tw_Cl mt sw ft fl xs Sp Lf P t X) {x y : Nat} (hi : t[ix]? = some (pc, 23, 2, b, c, n, v)) (hx : x < 2 ^ 31) (hy : y < 2 ^ 31) (kt : x < y → X b ls st L f) (kf : y ≤ x → X (ix + 1) ls st L f) : X ix ls (tw_I (nI y) :: tw_I (nI x) :: st) L f := zc_icmplt h hi (fun g => kt ((nI_ltI hx hy).mp g)) (fun g => kf (Nat.le_of_not_lt (fun u => g ((nI_ltI hx hy).mpr u))))
theorem zn_icmpge (h : tw_Cl mt sw ft fl xs Sp Lf P t X) {x y : Nat} (hi : t[ix]? = some (pc, 23, 3, b, c, n, v)) (hx : x < 2 ^ 31) (hy : y < 2 ^ 31) (kt : y ≤ x → X b ls st L f) (kf : x < y → X (ix + 1) ls st L f) : X ix ls (tw_I (nI y) :: tw_I (nI x) :: st) L f := zc_icmpge h hi (fun g => kt ((nI_leI hy hx).mp g)) (fun g => kf (Nat.lt_of_not_le (fun u => g ((nI_leI hy hx).mpr u))))
theorem zn_icmpgt (h : tw_Cl mt sw ft fl xs Sp Lf P t X) {x y : Nat} (hi : t[ix]? = some (pc, 23, 4, b, c, n, v)) (hx : x < 2 ^ 31) (hy : y < 2 ^ 31) (kt : y < x → X b ls st L f) (kf : x ≤ y → X (ix + 1) ls st L f) : X ix ls (tw_I (nI y) :: tw_I (nI x) :: st) L f := zc_icmpgt h hi (fun g => kt ((nI_ltI hy hx).mp g)) (fun g => kf (Nat.le_of_not_lt (fun u => g ((nI_ltI hy hx).mpr u))))
theorem zn_icmple (h : tw_Cl mt sw ft fl xs Sp Lf P t X) {x y : Nat} (hi : t[ix]? = some (pc, 23, 5, b, c, n, v)) (hx : x < 2 ^ 31) (hy : y < 2 ^ 31) (kt : x ≤ y → X b ls st L f) (kf : y < x → X (ix + 1) ls st L f) : X ix ls (tw_I (nI y) :: tw_I (nI x) :: st) L f := zc_icmple h hi (fun g => kt ((nI_leI hx hy).mp g)) (fun g => kf (Nat.lt_of_not_le (fun u => g ((nI_leI hx hy).mpr u))))
theorem zk_V (h : tw_Cl mt sw ft fl xs Sp Lf P t X) (As : List tw_A) {stk : List tw_A} {q nn : Nat} {rs : List (Option Nat)} (hi : t[ix]? = some (pc, 35, a, b, c, n, v)) (hL : Lf[q]? = some (b, nn, rs)) (hn : As.length = tw_na mt a) (hst : stk = As.reverse ++ tw_R q :: st) (hs : (st.map tw_ct).sum ≤ 8) (k0 : Sp a (tw_R q :: As) Lf f Lf (fun f2 r => X (ix + 1) ls (r.toList ++ st) Lf f2)) : X ix ls stk Lf f := by
  subst hst
  exact zi_callV h hi hL hn hs (Nat.le_refl _) (Nat.le_refl _) (Nat.le_refl _) (Nat.le_refl _) k0
theorem zk_S (h : tw_Cl mt sw ft fl xs Sp Lf P t X) (As : List tw_A) {stk : List tw_A} (hi : t[ix]? = some (pc, 36, a, b, c, n, v)) (hn : As.length = tw_na mt a) (hst : stk = As.reverse ++ st) (hs : (st.map tw_ct).sum ≤ 8) (k0 : Sp a As Lf f Lf (fun f2 r => X (ix + 1) ls (r.toList ++ st) Lf f2)) : X ix ls stk Lf f := by
  subst hst
  exact zi_callS h hi hn hs (Nat.le_refl _) (Nat.le_refl _) (Nat.le_refl _) (Nat.le_refl _) k0
end ZR
