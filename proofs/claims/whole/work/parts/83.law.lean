/-! The law's loop, by the rules: every call of the class and of the reference's, side by side. -/
section ZS
variable {mt : List tw_MR} {sw : tw_SW} {ft : Nat → Nat → Nat} {fl : Bool} {N : Nat} {xs : Nat → Int32} {Sp : tw_SP} {Lf : tw_L} {P : tw_S → Option tw_A → Prop} {t : tw_T} {X : tw_X} {ix pc a b c : Nat} {n : Int} {v : Int32} {ls : List (Option tw_A)} {st : List tw_A} {L : tw_L} {f : tw_S}
theorem zq_scr (h : tw_Cl mt sw ft fl (some (N, xs)) Sp Lf P t X) {x : Int32} {i : Nat} (hi : t[ix]? = some (pc, 48, a, b, c, n, v)) (hx : x = nI i) (hlt : i < N) (hN : N ≤ 2048) (k : X (ix + 1) ls (tw_I (xs i) :: st) L f) : X ix ls (tw_I x :: tw_Z :: st) L f := by
  subst hx
  refine zi_scr h hi rfl (vp_in_nI hlt (by omega)) ?_
  rw [nI_clamp (by omega)]
  exact k
end ZS
theorem rR_ext8 {x y x2 y2 : tw_S} {tm : Nat} (hx : ∀ a b, a < 61 → x2 a b = x a b) (hy : ∀ a b, 61 ≤ a → a < 108 → ¬ (a = 61 ∧ b = 0) → y2 a b = y a b) (h : rR x y tm) : rR x2 y2 tm := by
  obtain ⟨h1, h2, h3, h4, h5, h6, h7, h8, h9⟩ := h
  refine ⟨rD_ext (fun a b _ => hx a b (by omega)) (fun a b _ => hy a b (by omega) (by omega) (by omega)) h1, rL_ext (fun a b _ => hx a b (by omega)) (fun a b _ => hy a b (by omega) (by omega) (by omega)) h2, rT_ext (fun a b _ => hx a b (by omega)) (fun a b _ => hy a b (by omega) (by omega) (by omega)) h3, by rw [hx _ _ (by omega), hy _ _ (by omega) (by omega) (by omega)]; exact h4, fun c hc => rF_ext (fun b => hx _ b (by omega)) (fun a b _ => hy a b (by omega) (by omega) (by omega)) (h5 c hc), fun c hc => rE_ext (fun a b _ => hx a b (by omega)) (fun a b _ => hy a b (by omega) (by omega) (by omega)) (h6 c hc), fun c hc => rI_ext (Nat.le_refl _) (fun a b _ => hx a b (by omega)) (fun a b _ => hy a b (by omega) (by omega) (by omega)) (h7 c hc), fun c hc => rS_ext (fun a b _ => hx a b (by omega)) (fun b _ u => by rw [hx _ _ (by omega)]; exact u) (fun a b _ => hy a b (by omega) (by omega) (by omega)) (h8 c hc), fun c hc => rW_ext (fun b => hx _ b (by omega)) (fun a _ => hy a _ (by omega) (by omega) (by omega)) (h9 c hc)⟩
theorem rR_108 {f : tw_S} {tm : Nat} (h : rR f f tm) (v : Int32) : rR (tw_up f 108 0 v) (tw_up f 108 0 v) tm := rR_ext8 (fun a b u => tw_off (by omega)) (fun a b u w _ => tw_off (by omega)) h
theorem rR_610 {f : tw_S} {tm : Nat} (h : rR f f tm) (v : Int32) : rR (tw_up f 61 0 v) (tw_up f 61 0 v) tm := rR_ext (fun a b u => tw_off (by omega)) (fun a b u w => tw_off (by omega)) h
abbrev lwS (k : Nat) (l5 l6 : Option tw_A) : List (Option tw_A) := [some tw_Z, some (tw_R 0), some (tw_R 61), some (tw_R 108), some (tw_I (nI (4 * k))), l5, l6]
abbrev lwC (N : Nat) (xs : Nat → Int32) (X : tw_X) : Prop := tw_Cl tx_mt tx_sw tx_ft false (some (N, xs)) (tw_Sp tx_mt tx_sw tx_ft false 10) tx_L0 (fun _ r => r = some (tw_I 1)) tx_tL X
/-- a helper that puts an answer of the tickets' column into out, or tells that it threw -/
def lwT (X X2 : tw_X) (ix col : Nat) : Prop := ∀ (ls : List (Option tw_A)) (f : tw_S) (tm : Nat) (p : Int32), f 6 5 = nI tm → tm ≤ 200 → (∀ j, j < tm → p = nI j → X2 (ix + 1) ls [tw_I 0] tx_L0 (tw_up f 108 0 (f col j))) → (p < 0 ∨ nI tm ≤ p → X2 (ix + 1) ls [tw_I 1] tx_L0 f) → X ix ls [tw_R 108, tw_I p, tw_R 0] tx_L0 f
def lwD (X X2 : tw_X) (ix : Nat) : Prop := ∀ (ls : List (Option tw_A)) (f : tw_S) (p q : Int32), (∀ i s, i < 5 → s < 8 → p = nI i → q = nI s → f 5 (i * 8 + s) = 0 → X2 (ix + 1) ls [tw_I 0] tx_L0 (tw_up f 108 0 (f 4 (i * 8 + s)))) → ((p < 0 ∨ nI 5 ≤ p) ∨ ((q < 0 ∨ nI 8 ≤ q) ∧ ∃ i, i < 5 ∧ p = nI i) ∨ (∃ i s, i < 5 ∧ s < 8 ∧ p = nI i ∧ q = nI s ∧ ¬ f 5 (i * 8 + s) = 0) → X2 (ix + 1) ls [tw_I 1] tx_L0 f) → X ix ls [tw_R 108, tw_I q, tw_I p, tw_R 0] tx_L0 f
theorem lg_cmp_self (x : Int64) : lg_cmp x x = 0 := by
  unfold lg_cmp
  simp
set_option maxRecDepth 20000 in
theorem lw_write {N : Nat} {xs : Nat → Int32} {X : tw_X} (h : lwC N xs X) (hN : N ≤ 2048) {k : Nat} (hk : 4 * k + 4 ≤ N) {l5 l6 : Option tw_A} {f : tw_S} {tm : Nat} (hr : rR f f tm) (kk : ∀ f2 tm2, rR f2 f2 tm2 → X 489 (lwS k l5 l6) [] tx_L0 f2) : X 25 (lwS k l5 l6) [] tx_L0 f := by
  refine zi_aload_n h rfl rfl ?_
  refine zi_aloadZ h rfl rfl ?_
  refine zi_iload h rfl rfl ?_
  refine zn_iconst h 1 rfl rfl ?_
  refine zn_iadd h rfl ?_
  refine zq_scr h rfl rfl (by omega) hN ?_
  refine zi_aloadZ h rfl rfl ?_
  refine zi_iload h rfl rfl ?_
  refine zn_iconst h 2 rfl rfl ?_
  refine zn_iadd h rfl ?_
  refine zq_scr h rfl rfl (by omega) hN ?_
  refine zi_aloadZ h rfl rfl ?_
  refine zi_iload h rfl rfl ?_
  refine zn_iconst h 3 rfl rfl ?_
  refine zn_iadd h rfl ?_
  refine zq_scr h rfl rfl (by omega) hN ?_
  refine zk_V h [_, _, _] rfl rfl rfl rfl (Nat.le_of_ble_eq_true rfl) (tw_Sp_mono (c_write (d := 6) (e := 8) hr _ _ _) (fun g r hC => ?_))
  obtain ⟨v, rfl, hM⟩ := hC
  show X 42 _ [tw_I v] tx_L0 g
  refine zi_aload_n h rfl rfl ?_
  refine zi_aloadZ h rfl rfl ?_
  refine zi_iload h rfl rfl ?_
  refine zn_iconst h 1 rfl rfl ?_
  refine zn_iadd h rfl ?_
  refine zq_scr h rfl rfl (by omega) hN ?_
  refine zi_aloadZ h rfl rfl ?_
  refine zi_iload h rfl rfl ?_
  refine zn_iconst h 2 rfl rfl ?_
  refine zn_iadd h rfl ?_
  refine zq_scr h rfl rfl (by omega) hN ?_
  refine zi_aloadZ h rfl rfl ?_
  refine zi_iload h rfl rfl ?_
  refine zn_iconst h 3 rfl rfl ?_
  refine zn_iadd h rfl ?_
  refine zq_scr h rfl rfl (by omega) hN ?_
  refine zk_V h [_, _, _] rfl rfl rfl rfl (Nat.le_of_ble_eq_true rfl) (tw_Sp_mono hM (fun g2 r2 hQ => ?_))
  obtain ⟨rfl, tm2, hr2⟩ := hQ
  show X 59 _ [tw_I v, tw_I v] tx_L0 g2
  exact zc_icmpeq h rfl (fun _ => kk g2 tm2 hr2) (fun hc => absurd rfl hc)
set_option maxRecDepth 20000 in
theorem lw_read {N : Nat} {xs : Nat → Int32} {X : tw_X} (h : lwC N xs X) (hN : N ≤ 2048) {k : Nat} (hk : 4 * k + 4 ≤ N) {l5 l6 : Option tw_A} {f : tw_S} {tm : Nat} (hr : rR f f tm) (kk : ∀ f2 tm2, rR f2 f2 tm2 → X 489 (lwS k l5 l6) [] tx_L0 f2) : X 62 (lwS k l5 l6) [] tx_L0 f := by
  refine zi_aload_n h rfl rfl ?_
  refine zi_aloadZ h rfl rfl ?_
  refine zi_iload h rfl rfl ?_
  refine zn_iconst h 1 rfl rfl ?_
  refine zn_iadd h rfl ?_
  refine zq_scr h rfl rfl (by omega) hN ?_
  refine zi_aloadZ h rfl rfl ?_
  refine zi_iload h rfl rfl ?_
  refine zn_iconst h 2 rfl rfl ?_
  refine zn_iadd h rfl ?_
  refine zq_scr h rfl rfl (by omega) hN ?_
  refine zk_V h [_, _] rfl rfl rfl rfl (Nat.le_of_ble_eq_true rfl) (tw_Sp_mono (c_read (d := 5) (e := 6) hr _ _) (fun g r hC => ?_))
  obtain ⟨v, rfl, hM⟩ := hC
  show X 74 _ [tw_I v] tx_L0 g
  refine zi_aload_n h rfl rfl ?_
  refine zi_aloadZ h rfl rfl ?_
  refine zi_iload h rfl rfl ?_
  refine zn_iconst h 1 rfl rfl ?_
  refine zn_iadd h rfl ?_
  refine zq_scr h rfl rfl (by omega) hN ?_
  refine zi_aloadZ h rfl rfl ?_
  refine zi_iload h rfl rfl ?_
  refine zn_iconst h 2 rfl rfl ?_
  refine zn_iadd h rfl ?_
  refine zq_scr h rfl rfl (by omega) hN ?_
  refine zk_V h [_, _] rfl rfl rfl rfl (Nat.le_of_ble_eq_true rfl) (tw_Sp_mono hM (fun g2 r2 hQ => ?_))
  obtain ⟨rfl, tm2, hr2⟩ := hQ
  show X 86 _ [tw_I v, tw_I v] tx_L0 g2
  exact zc_icmpeq h rfl (fun _ => kk g2 tm2 hr2) (fun hc => absurd rfl hc)
set_option maxRecDepth 20000 in
theorem lw_step {N : Nat} {xs : Nat → Int32} {X : tw_X} (h : lwC N xs X) (hN : N ≤ 2048) {k : Nat} (hk : 4 * k + 4 ≤ N) {l5 l6 : Option tw_A} {f : tw_S} {tm : Nat} (hr : rR f f tm) (kk : ∀ f2 tm2, rR f2 f2 tm2 → X 489 (lwS k l5 l6) [] tx_L0 f2) : X 159 (lwS k l5 l6) [] tx_L0 f := by
  refine zi_aload_n h rfl rfl ?_
  refine zi_aloadZ h rfl rfl ?_
  refine zi_iload h rfl rfl ?_
  refine zn_iconst h 1 rfl rfl ?_
  refine zn_iadd h rfl ?_
  refine zq_scr h rfl rfl (by omega) hN ?_
  refine zk_V h [_] rfl rfl rfl rfl (Nat.le_of_ble_eq_true rfl) (tw_Sp_mono (c_step (d := 2) (e := 5) hr _) (fun g r hC => ?_))
  obtain ⟨v, rfl, hM⟩ := hC
  show X 166 _ [tw_I v] tx_L0 g
  refine zi_aload_n h rfl rfl ?_
  refine zi_aloadZ h rfl rfl ?_
  refine zi_iload h rfl rfl ?_
  refine zn_iconst h 1 rfl rfl ?_
  refine zn_iadd h rfl ?_
  refine zq_scr h rfl rfl (by omega) hN ?_
  refine zk_V h [_] rfl rfl rfl rfl (Nat.le_of_ble_eq_true rfl) (tw_Sp_mono hM (fun g2 r2 hQ => ?_))
  obtain ⟨rfl, tm2, hr2⟩ := hQ
  show X 173 _ [tw_I v, tw_I v] tx_L0 g2
  exact zc_icmpeq h rfl (fun _ => kk g2 tm2 hr2) (fun hc => absurd rfl hc)
set_option maxRecDepth 20000 in
theorem lw_arrive {N : Nat} {xs : Nat → Int32} {X : tw_X} (h : lwC N xs X) (hN : N ≤ 2048) {k : Nat} (hk : 4 * k + 4 ≤ N) {l5 l6 : Option tw_A} {f : tw_S} {tm : Nat} (hr : rR f f tm) (kk : ∀ f2 tm2, rR f2 f2 tm2 → X 489 (lwS k l5 l6) [] tx_L0 f2) : X 176 (lwS k l5 l6) [] tx_L0 f := by
  refine zi_aload_n h rfl rfl ?_
  refine zi_aloadZ h rfl rfl ?_
  refine zi_iload h rfl rfl ?_
  refine zn_iconst h 1 rfl rfl ?_
  refine zn_iadd h rfl ?_
  refine zq_scr h rfl rfl (by omega) hN ?_
  refine zk_V h [_] rfl rfl rfl rfl (Nat.le_of_ble_eq_true rfl) (tw_Sp_mono (c_arrive (d := 6) (e := 8) hr _) (fun g r hC => ?_))
  obtain ⟨v, rfl, hM⟩ := hC
  show X 183 _ [tw_I v] tx_L0 g
  refine zi_aload_n h rfl rfl ?_
  refine zi_aloadZ h rfl rfl ?_
  refine zi_iload h rfl rfl ?_
  refine zn_iconst h 1 rfl rfl ?_
  refine zn_iadd h rfl ?_
  refine zq_scr h rfl rfl (by omega) hN ?_
  refine zk_V h [_] rfl rfl rfl rfl (Nat.le_of_ble_eq_true rfl) (tw_Sp_mono hM (fun g2 r2 hQ => ?_))
  obtain ⟨rfl, tm2, hr2⟩ := hQ
  show X 190 _ [tw_I v, tw_I v] tx_L0 g2
  exact zc_icmpeq h rfl (fun _ => kk g2 tm2 hr2) (fun hc => absurd rfl hc)
set_option maxRecDepth 20000 in
theorem lw_crash {N : Nat} {xs : Nat → Int32} {X : tw_X} (h : lwC N xs X) (hN : N ≤ 2048) {k : Nat} (hk : 4 * k + 4 ≤ N) {l5 l6 : Option tw_A} {f : tw_S} {tm : Nat} (hr : rR f f tm) (kk : ∀ f2 tm2, rR f2 f2 tm2 → X 489 (lwS k l5 l6) [] tx_L0 f2) : X 216 (lwS k l5 l6) [] tx_L0 f := by
  refine zi_aload_n h rfl rfl ?_
  refine zi_aloadZ h rfl rfl ?_
  refine zi_iload h rfl rfl ?_
  refine zn_iconst h 1 rfl rfl ?_
  refine zn_iadd h rfl ?_
  refine zq_scr h rfl rfl (by omega) hN ?_
  refine zk_V h [_] rfl rfl rfl rfl (Nat.le_of_ble_eq_true rfl) (tw_Sp_mono (c_crash (d := 5) (e := 8) hr _) (fun g r hC => ?_))
  obtain ⟨v, rfl, hM⟩ := hC
  show X 223 _ [tw_I v] tx_L0 g
  refine zi_aload_n h rfl rfl ?_
  refine zi_aloadZ h rfl rfl ?_
  refine zi_iload h rfl rfl ?_
  refine zn_iconst h 1 rfl rfl ?_
  refine zn_iadd h rfl ?_
  refine zq_scr h rfl rfl (by omega) hN ?_
  refine zk_V h [_] rfl rfl rfl rfl (Nat.le_of_ble_eq_true rfl) (tw_Sp_mono hM (fun g2 r2 hQ => ?_))
  obtain ⟨rfl, tm2, hr2⟩ := hQ
  show X 230 _ [tw_I v, tw_I v] tx_L0 g2
  exact zc_icmpeq h rfl (fun _ => kk g2 tm2 hr2) (fun hc => absurd rfl hc)
set_option maxRecDepth 20000 in
theorem lw_restart {N : Nat} {xs : Nat → Int32} {X : tw_X} (h : lwC N xs X) (hN : N ≤ 2048) {k : Nat} (hk : 4 * k + 4 ≤ N) {l5 l6 : Option tw_A} {f : tw_S} {tm : Nat} (hr : rR f f tm) (kk : ∀ f2 tm2, rR f2 f2 tm2 → X 489 (lwS k l5 l6) [] tx_L0 f2) : X 233 (lwS k l5 l6) [] tx_L0 f := by
  refine zi_aload_n h rfl rfl ?_
  refine zi_aloadZ h rfl rfl ?_
  refine zi_iload h rfl rfl ?_
  refine zn_iconst h 1 rfl rfl ?_
  refine zn_iadd h rfl ?_
  refine zq_scr h rfl rfl (by omega) hN ?_
  refine zk_V h [_] rfl rfl rfl rfl (Nat.le_of_ble_eq_true rfl) (tw_Sp_mono (c_restart (d := 8) (e := 8) hr _) (fun g r hC => ?_))
  obtain ⟨v, rfl, hM⟩ := hC
  show X 240 _ [tw_I v] tx_L0 g
  refine zi_aload_n h rfl rfl ?_
  refine zi_aloadZ h rfl rfl ?_
  refine zi_iload h rfl rfl ?_
  refine zn_iconst h 1 rfl rfl ?_
  refine zn_iadd h rfl ?_
  refine zq_scr h rfl rfl (by omega) hN ?_
  refine zk_V h [_] rfl rfl rfl rfl (Nat.le_of_ble_eq_true rfl) (tw_Sp_mono hM (fun g2 r2 hQ => ?_))
  obtain ⟨rfl, tm2, hr2⟩ := hQ
  show X 247 _ [tw_I v, tw_I v] tx_L0 g2
  exact zc_icmpeq h rfl (fun _ => kk g2 tm2 hr2) (fun hc => absurd rfl hc)
set_option maxRecDepth 20000 in
theorem lw_pair {N : Nat} {xs : Nat → Int32} {X : tw_X} (h : lwC N xs X) (hN : N ≤ 2048) {k : Nat} (hk : 4 * k + 4 ≤ N) {l5 l6 : Option tw_A} {f : tw_S} {tm : Nat} (hr : rR f f tm) (kk : ∀ f2 tm2, rR f2 f2 tm2 → X 489 (lwS k l5 l6) [] tx_L0 f2) : X 250 (lwS k l5 l6) [] tx_L0 f := by
  refine zi_aload_n h rfl rfl ?_
  refine zk_V h [] rfl rfl rfl rfl (Nat.le_of_ble_eq_true rfl) (tw_Sp_mono (c_pair (d := 6) (e := 6) hr ) (fun g r hC => ?_))
  obtain ⟨v, rfl, hM⟩ := hC
  show X 252 _ [tw_I v] tx_L0 g
  refine zi_aload_n h rfl rfl ?_
  refine zk_V h [] rfl rfl rfl rfl (Nat.le_of_ble_eq_true rfl) (tw_Sp_mono hM (fun g2 r2 hQ => ?_))
  obtain ⟨rfl, tm2, hr2⟩ := hQ
  show X 254 _ [tw_I v, tw_I v] tx_L0 g2
  exact zc_icmpeq h rfl (fun _ => kk g2 tm2 hr2) (fun hc => absurd rfl hc)
set_option maxRecDepth 20000 in
theorem lw_takeOver {N : Nat} {xs : Nat → Int32} {X : tw_X} (h : lwC N xs X) (hN : N ≤ 2048) {k : Nat} (hk : 4 * k + 4 ≤ N) {l5 l6 : Option tw_A} {f : tw_S} {tm : Nat} (hr : rR f f tm) (kk : ∀ f2 tm2, rR f2 f2 tm2 → X 489 (lwS k l5 l6) [] tx_L0 f2) : X 257 (lwS k l5 l6) [] tx_L0 f := by
  refine zi_aload_n h rfl rfl ?_
  refine zi_aloadZ h rfl rfl ?_
  refine zi_iload h rfl rfl ?_
  refine zn_iconst h 1 rfl rfl ?_
  refine zn_iadd h rfl ?_
  refine zq_scr h rfl rfl (by omega) hN ?_
  refine zk_V h [_] rfl rfl rfl rfl (Nat.le_of_ble_eq_true rfl) (tw_Sp_mono (c_takeOver (d := 7) (e := 8) hr _) (fun g r hC => ?_))
  obtain ⟨v, rfl, hM⟩ := hC
  show X 264 _ [tw_I v] tx_L0 g
  refine zi_aload_n h rfl rfl ?_
  refine zi_aloadZ h rfl rfl ?_
  refine zi_iload h rfl rfl ?_
  refine zn_iconst h 1 rfl rfl ?_
  refine zn_iadd h rfl ?_
  refine zq_scr h rfl rfl (by omega) hN ?_
  refine zk_V h [_] rfl rfl rfl rfl (Nat.le_of_ble_eq_true rfl) (tw_Sp_mono hM (fun g2 r2 hQ => ?_))
  obtain ⟨rfl, tm2, hr2⟩ := hQ
  show X 271 _ [tw_I v, tw_I v] tx_L0 g2
  exact zc_icmpeq h rfl (fun _ => kk g2 tm2 hr2) (fun hc => absurd rfl hc)
set_option maxRecDepth 20000 in
theorem lw_moveOwner {N : Nat} {xs : Nat → Int32} {X : tw_X} (h : lwC N xs X) (hN : N ≤ 2048) {k : Nat} (hk : 4 * k + 4 ≤ N) {l5 l6 : Option tw_A} {f : tw_S} {tm : Nat} (hr : rR f f tm) (kk : ∀ f2 tm2, rR f2 f2 tm2 → X 489 (lwS k l5 l6) [] tx_L0 f2) : X 274 (lwS k l5 l6) [] tx_L0 f := by
  refine zi_aload_n h rfl rfl ?_
  refine zi_aloadZ h rfl rfl ?_
  refine zi_iload h rfl rfl ?_
  refine zn_iconst h 1 rfl rfl ?_
  refine zn_iadd h rfl ?_
  refine zq_scr h rfl rfl (by omega) hN ?_
  refine zk_V h [_] rfl rfl rfl rfl (Nat.le_of_ble_eq_true rfl) (tw_Sp_mono (c_moveOwner (d := 7) (e := 8) hr _) (fun g r hC => ?_))
  obtain ⟨v, rfl, hM⟩ := hC
  show X 281 _ [tw_I v] tx_L0 g
  refine zi_aload_n h rfl rfl ?_
  refine zi_aloadZ h rfl rfl ?_
  refine zi_iload h rfl rfl ?_
  refine zn_iconst h 1 rfl rfl ?_
  refine zn_iadd h rfl ?_
  refine zq_scr h rfl rfl (by omega) hN ?_
  refine zk_V h [_] rfl rfl rfl rfl (Nat.le_of_ble_eq_true rfl) (tw_Sp_mono hM (fun g2 r2 hQ => ?_))
  obtain ⟨rfl, tm2, hr2⟩ := hQ
  show X 288 _ [tw_I v, tw_I v] tx_L0 g2
  exact zc_icmpeq h rfl (fun _ => kk g2 tm2 hr2) (fun hc => absurd rfl hc)
set_option maxRecDepth 20000 in
theorem lw_flush {N : Nat} {xs : Nat → Int32} {X : tw_X} (h : lwC N xs X) (hN : N ≤ 2048) {k : Nat} (hk : 4 * k + 4 ≤ N) {l5 l6 : Option tw_A} {f : tw_S} {tm : Nat} (hr : rR f f tm) (kk : ∀ f2 tm2, rR f2 f2 tm2 → X 489 (lwS k l5 l6) [] tx_L0 f2) : X 291 (lwS k l5 l6) [] tx_L0 f := by
  refine zi_aload_n h rfl rfl ?_
  refine zi_aloadZ h rfl rfl ?_
  refine zi_iload h rfl rfl ?_
  refine zn_iconst h 1 rfl rfl ?_
  refine zn_iadd h rfl ?_
  refine zq_scr h rfl rfl (by omega) hN ?_
  refine zk_V h [_] rfl rfl rfl rfl (Nat.le_of_ble_eq_true rfl) (tw_Sp_mono (c_flush (d := 8) (e := 8) hr _) (fun g r hC => ?_))
  obtain ⟨v, rfl, hM⟩ := hC
  show X 298 _ [tw_I v] tx_L0 g
  refine zi_aload_n h rfl rfl ?_
  refine zi_aloadZ h rfl rfl ?_
  refine zi_iload h rfl rfl ?_
  refine zn_iconst h 1 rfl rfl ?_
  refine zn_iadd h rfl ?_
  refine zq_scr h rfl rfl (by omega) hN ?_
  refine zk_V h [_] rfl rfl rfl rfl (Nat.le_of_ble_eq_true rfl) (tw_Sp_mono hM (fun g2 r2 hQ => ?_))
  obtain ⟨rfl, tm2, hr2⟩ := hQ
  show X 305 _ [tw_I v, tw_I v] tx_L0 g2
  exact zc_icmpeq h rfl (fun _ => kk g2 tm2 hr2) (fun hc => absurd rfl hc)
set_option maxRecDepth 20000 in
theorem lw_lose {N : Nat} {xs : Nat → Int32} {X : tw_X} (h : lwC N xs X) (hN : N ≤ 2048) {k : Nat} (hk : 4 * k + 4 ≤ N) {l5 l6 : Option tw_A} {f : tw_S} {tm : Nat} (hr : rR f f tm) (kk : ∀ f2 tm2, rR f2 f2 tm2 → X 489 (lwS k l5 l6) [] tx_L0 f2) : X 308 (lwS k l5 l6) [] tx_L0 f := by
  refine zi_aload_n h rfl rfl ?_
  refine zi_aloadZ h rfl rfl ?_
  refine zi_iload h rfl rfl ?_
  refine zn_iconst h 1 rfl rfl ?_
  refine zn_iadd h rfl ?_
  refine zq_scr h rfl rfl (by omega) hN ?_
  refine zk_V h [_] rfl rfl rfl rfl (Nat.le_of_ble_eq_true rfl) (tw_Sp_mono (c_lose (d := 8) (e := 8) hr _) (fun g r hC => ?_))
  obtain ⟨v, rfl, hM⟩ := hC
  show X 315 _ [tw_I v] tx_L0 g
  refine zi_aload_n h rfl rfl ?_
  refine zi_aloadZ h rfl rfl ?_
  refine zi_iload h rfl rfl ?_
  refine zn_iconst h 1 rfl rfl ?_
  refine zn_iadd h rfl ?_
  refine zq_scr h rfl rfl (by omega) hN ?_
  refine zk_V h [_] rfl rfl rfl rfl (Nat.le_of_ble_eq_true rfl) (tw_Sp_mono hM (fun g2 r2 hQ => ?_))
  obtain ⟨rfl, tm2, hr2⟩ := hQ
  show X 322 _ [tw_I v, tw_I v] tx_L0 g2
  exact zc_icmpeq h rfl (fun _ => kk g2 tm2 hr2) (fun hc => absurd rfl hc)
set_option maxRecDepth 20000 in
theorem lw_replace {N : Nat} {xs : Nat → Int32} {X : tw_X} (h : lwC N xs X) (hN : N ≤ 2048) {k : Nat} (hk : 4 * k + 4 ≤ N) {l5 l6 : Option tw_A} {f : tw_S} {tm : Nat} (hr : rR f f tm) (kk : ∀ f2 tm2, rR f2 f2 tm2 → X 489 (lwS k l5 l6) [] tx_L0 f2) : X 325 (lwS k l5 l6) [] tx_L0 f := by
  refine zi_aload_n h rfl rfl ?_
  refine zi_aloadZ h rfl rfl ?_
  refine zi_iload h rfl rfl ?_
  refine zn_iconst h 1 rfl rfl ?_
  refine zn_iadd h rfl ?_
  refine zq_scr h rfl rfl (by omega) hN ?_
  refine zk_V h [_] rfl rfl rfl rfl (Nat.le_of_ble_eq_true rfl) (tw_Sp_mono (c_replace (d := 6) (e := 8) hr _) (fun g r hC => ?_))
  obtain ⟨v, rfl, hM⟩ := hC
  show X 332 _ [tw_I v] tx_L0 g
  refine zi_aload_n h rfl rfl ?_
  refine zi_aloadZ h rfl rfl ?_
  refine zi_iload h rfl rfl ?_
  refine zn_iconst h 1 rfl rfl ?_
  refine zn_iadd h rfl ?_
  refine zq_scr h rfl rfl (by omega) hN ?_
  refine zk_V h [_] rfl rfl rfl rfl (Nat.le_of_ble_eq_true rfl) (tw_Sp_mono hM (fun g2 r2 hQ => ?_))
  obtain ⟨rfl, tm2, hr2⟩ := hQ
  show X 339 _ [tw_I v, tw_I v] tx_L0 g2
  exact zc_icmpeq h rfl (fun _ => kk g2 tm2 hr2) (fun hc => absurd rfl hc)
set_option maxRecDepth 20000 in
theorem lw_rebuild {N : Nat} {xs : Nat → Int32} {X : tw_X} (h : lwC N xs X) (hN : N ≤ 2048) {k : Nat} (hk : 4 * k + 4 ≤ N) {l5 l6 : Option tw_A} {f : tw_S} {tm : Nat} (hr : rR f f tm) (kk : ∀ f2 tm2, rR f2 f2 tm2 → X 489 (lwS k l5 l6) [] tx_L0 f2) : X 342 (lwS k l5 l6) [] tx_L0 f := by
  refine zi_aload_n h rfl rfl ?_
  refine zi_aloadZ h rfl rfl ?_
  refine zi_iload h rfl rfl ?_
  refine zn_iconst h 1 rfl rfl ?_
  refine zn_iadd h rfl ?_
  refine zq_scr h rfl rfl (by omega) hN ?_
  refine zk_V h [_] rfl rfl rfl rfl (Nat.le_of_ble_eq_true rfl) (tw_Sp_mono (c_rebuild (d := 7) (e := 7) hr _) (fun g r hC => ?_))
  obtain ⟨v, rfl, hM⟩ := hC
  show X 349 _ [tw_I v] tx_L0 g
  refine zi_aload_n h rfl rfl ?_
  refine zi_aloadZ h rfl rfl ?_
  refine zi_iload h rfl rfl ?_
  refine zn_iconst h 1 rfl rfl ?_
  refine zn_iadd h rfl ?_
  refine zq_scr h rfl rfl (by omega) hN ?_
  refine zk_V h [_] rfl rfl rfl rfl (Nat.le_of_ble_eq_true rfl) (tw_Sp_mono hM (fun g2 r2 hQ => ?_))
  obtain ⟨rfl, tm2, hr2⟩ := hQ
  show X 356 _ [tw_I v, tw_I v] tx_L0 g2
  exact zc_icmpeq h rfl (fun _ => kk g2 tm2 hr2) (fun hc => absurd rfl hc)
set_option maxRecDepth 20000 in
theorem lw_late {N : Nat} {xs : Nat → Int32} {X : tw_X} (h : lwC N xs X) (hN : N ≤ 2048) {k : Nat} (hk : 4 * k + 4 ≤ N) {l5 l6 : Option tw_A} {f : tw_S} {tm : Nat} (hr : rR f f tm) (kk : ∀ f2 tm2, rR f2 f2 tm2 → X 489 (lwS k l5 l6) [] tx_L0 f2) : X 359 (lwS k l5 l6) [] tx_L0 f := by
  refine zi_aload_n h rfl rfl ?_
  refine zi_aloadZ h rfl rfl ?_
  refine zi_iload h rfl rfl ?_
  refine zn_iconst h 1 rfl rfl ?_
  refine zn_iadd h rfl ?_
  refine zq_scr h rfl rfl (by omega) hN ?_
  refine zk_V h [_] rfl rfl rfl rfl (Nat.le_of_ble_eq_true rfl) (tw_Sp_mono (c_late (d := 8) (e := 8) hr _) (fun g r hC => ?_))
  obtain ⟨v, rfl, hM⟩ := hC
  show X 366 _ [tw_I v] tx_L0 g
  refine zi_aload_n h rfl rfl ?_
  refine zi_aloadZ h rfl rfl ?_
  refine zi_iload h rfl rfl ?_
  refine zn_iconst h 1 rfl rfl ?_
  refine zn_iadd h rfl ?_
  refine zq_scr h rfl rfl (by omega) hN ?_
  refine zk_V h [_] rfl rfl rfl rfl (Nat.le_of_ble_eq_true rfl) (tw_Sp_mono hM (fun g2 r2 hQ => ?_))
  obtain ⟨rfl, tm2, hr2⟩ := hQ
  show X 373 _ [tw_I v, tw_I v] tx_L0 g2
  exact zc_icmpeq h rfl (fun _ => kk g2 tm2 hr2) (fun hc => absurd rfl hc)
set_option maxRecDepth 20000 in
theorem lw_lates {N : Nat} {xs : Nat → Int32} {X : tw_X} (h : lwC N xs X) (hN : N ≤ 2048) {k : Nat} (hk : 4 * k + 4 ≤ N) {l5 l6 : Option tw_A} {f : tw_S} {tm : Nat} (hr : rR f f tm) (kk : ∀ f2 tm2, rR f2 f2 tm2 → X 489 (lwS k l5 l6) [] tx_L0 f2) : X 376 (lwS k l5 l6) [] tx_L0 f := by
  refine zi_aload_n h rfl rfl ?_
  refine zk_V h [] rfl rfl rfl rfl (Nat.le_of_ble_eq_true rfl) (tw_Sp_mono (c_lates (d := 9) (e := 9) hr ) (fun g r hC => ?_))
  obtain ⟨v, rfl, hM⟩ := hC
  show X 378 _ [tw_I v] tx_L0 g
  refine zi_aload_n h rfl rfl ?_
  refine zk_V h [] rfl rfl rfl rfl (Nat.le_of_ble_eq_true rfl) (tw_Sp_mono hM (fun g2 r2 hQ => ?_))
  obtain ⟨rfl, tm2, hr2⟩ := hQ
  show X 380 _ [tw_I v, tw_I v] tx_L0 g2
  exact zc_icmpeq h rfl (fun _ => kk g2 tm2 hr2) (fun hc => absurd rfl hc)
set_option maxRecDepth 20000 in
theorem lw_parityGood {N : Nat} {xs : Nat → Int32} {X : tw_X} (h : lwC N xs X) (hN : N ≤ 2048) {k : Nat} (hk : 4 * k + 4 ≤ N) {l5 l6 : Option tw_A} {f : tw_S} {tm : Nat} (hr : rR f f tm) (kk : ∀ f2 tm2, rR f2 f2 tm2 → X 489 (lwS k l5 l6) [] tx_L0 f2) : X 383 (lwS k l5 l6) [] tx_L0 f := by
  refine zi_aload_n h rfl rfl ?_
  refine zi_aloadZ h rfl rfl ?_
  refine zi_iload h rfl rfl ?_
  refine zn_iconst h 1 rfl rfl ?_
  refine zn_iadd h rfl ?_
  refine zq_scr h rfl rfl (by omega) hN ?_
  refine zk_V h [_] rfl rfl rfl rfl (Nat.le_of_ble_eq_true rfl) (tw_Sp_mono (c_parityGood (d := 6) (e := 8) hr _) (fun g r hC => ?_))
  obtain ⟨v, rfl, hM⟩ := hC
  show X 390 _ [tw_I v] tx_L0 g
  refine zi_aload_n h rfl rfl ?_
  refine zi_aloadZ h rfl rfl ?_
  refine zi_iload h rfl rfl ?_
  refine zn_iconst h 1 rfl rfl ?_
  refine zn_iadd h rfl ?_
  refine zq_scr h rfl rfl (by omega) hN ?_
  refine zk_V h [_] rfl rfl rfl rfl (Nat.le_of_ble_eq_true rfl) (tw_Sp_mono hM (fun g2 r2 hQ => ?_))
  obtain ⟨rfl, tm2, hr2⟩ := hQ
  show X 397 _ [tw_I v, tw_I v] tx_L0 g2
  exact zc_icmpeq h rfl (fun _ => kk g2 tm2 hr2) (fun hc => absurd rfl hc)
set_option maxRecDepth 20000 in
theorem lw_keyOf {N : Nat} {xs : Nat → Int32} {X : tw_X} (h : lwC N xs X) (hN : N ≤ 2048) {k : Nat} (hk : 4 * k + 4 ≤ N) {l5 l6 : Option tw_A} {f : tw_S} {tm : Nat} (hr : rR f f tm) (kk : ∀ f2 tm2, rR f2 f2 tm2 → X 489 (lwS k l5 l6) [] tx_L0 f2) : X 445 (lwS k l5 l6) [] tx_L0 f := by
  refine zi_aload_n h rfl rfl ?_
  refine zi_aloadZ h rfl rfl ?_
  refine zi_iload h rfl rfl ?_
  refine zn_iconst h 1 rfl rfl ?_
  refine zn_iadd h rfl ?_
  refine zq_scr h rfl rfl (by omega) hN ?_
  refine zk_V h [_] rfl rfl rfl rfl (Nat.le_of_ble_eq_true rfl) (tw_Sp_mono (c_keyOf (d := 8) (e := 8) hr _) (fun g r hC => ?_))
  obtain ⟨v, rfl, hM⟩ := hC
  show X 452 _ [tw_I v] tx_L0 g
  refine zi_aload_n h rfl rfl ?_
  refine zi_aloadZ h rfl rfl ?_
  refine zi_iload h rfl rfl ?_
  refine zn_iconst h 1 rfl rfl ?_
  refine zn_iadd h rfl ?_
  refine zq_scr h rfl rfl (by omega) hN ?_
  refine zk_V h [_] rfl rfl rfl rfl (Nat.le_of_ble_eq_true rfl) (tw_Sp_mono hM (fun g2 r2 hQ => ?_))
  obtain ⟨rfl, tm2, hr2⟩ := hQ
  show X 459 _ [tw_I v, tw_I v] tx_L0 g2
  exact zc_icmpeq h rfl (fun _ => kk g2 tm2 hr2) (fun hc => absurd rfl hc)
set_option maxRecDepth 20000 in
theorem lw_state {N : Nat} {xs : Nat → Int32} {X : tw_X} (h : lwC N xs X) (hN : N ≤ 2048) {k : Nat} (hk : 4 * k + 4 ≤ N) {l5 l6 : Option tw_A} {f : tw_S} {tm : Nat} (hr : rR f f tm) (kk : ∀ f2 tm2, rR f2 f2 tm2 → X 489 (lwS k l5 l6) [] tx_L0 f2) : X 462 (lwS k l5 l6) [] tx_L0 f := by
  refine zi_aload_n h rfl rfl ?_
  refine zi_aloadZ h rfl rfl ?_
  refine zi_iload h rfl rfl ?_
  refine zn_iconst h 1 rfl rfl ?_
  refine zn_iadd h rfl ?_
  refine zq_scr h rfl rfl (by omega) hN ?_
  refine zi_aloadZ h rfl rfl ?_
  refine zi_iload h rfl rfl ?_
  refine zn_iconst h 2 rfl rfl ?_
  refine zn_iadd h rfl ?_
  refine zq_scr h rfl rfl (by omega) hN ?_
  refine zk_V h [_, _] rfl rfl rfl rfl (Nat.le_of_ble_eq_true rfl) (tw_Sp_mono (c_state (d := 7) (e := 7) hr _ _) (fun g r hC => ?_))
  obtain ⟨v, rfl, hM⟩ := hC
  show X 474 _ [tw_I v] tx_L0 g
  refine zi_aload_n h rfl rfl ?_
  refine zi_aloadZ h rfl rfl ?_
  refine zi_iload h rfl rfl ?_
  refine zn_iconst h 1 rfl rfl ?_
  refine zn_iadd h rfl ?_
  refine zq_scr h rfl rfl (by omega) hN ?_
  refine zi_aloadZ h rfl rfl ?_
  refine zi_iload h rfl rfl ?_
  refine zn_iconst h 2 rfl rfl ?_
  refine zn_iadd h rfl ?_
  refine zq_scr h rfl rfl (by omega) hN ?_
  refine zk_V h [_, _] rfl rfl rfl rfl (Nat.le_of_ble_eq_true rfl) (tw_Sp_mono hM (fun g2 r2 hQ => ?_))
  obtain ⟨rfl, tm2, hr2⟩ := hQ
  show X 486 _ [tw_I v, tw_I v] tx_L0 g2
  exact zc_icmpeq h rfl (fun _ => kk g2 tm2 hr2) (fun hc => absurd rfl hc)
set_option maxRecDepth 20000 in
theorem lw_cut {N : Nat} {xs : Nat → Int32} {X : tw_X} (h : lwC N xs X) (hN : N ≤ 2048) {k : Nat} (hk : 4 * k + 4 ≤ N) {l5 l6 : Option tw_A} {f : tw_S} {tm : Nat} (hr : rR f f tm) (kk : ∀ f2 tm2, rR f2 f2 tm2 → X 489 (lwS k l5 l6) [] tx_L0 f2) : X 193 (lwS k l5 l6) [] tx_L0 f := by
  refine zi_aload_n h rfl rfl ?_
  refine zi_aloadZ h rfl rfl ?_
  refine zi_iload h rfl rfl ?_
  refine zn_iconst h 1 rfl rfl ?_
  refine zn_iadd h rfl ?_
  refine zq_scr h rfl rfl (by omega) hN ?_
  have key : ∀ x : Int32, (x = 0 ∨ x = 1) → (∀ g : tw_S, X 214 (lwS k l5 l6) [tw_I x, tw_R 61] tx_L0 g → X 204 (lwS k l5 l6) [] tx_L0 g) → X 203 (lwS k l5 l6) [tw_I x, tw_R 0] tx_L0 f := by
    intro x hx hg
    refine zk_V h [tw_I x] rfl rfl rfl rfl (Nat.le_of_ble_eq_true rfl) (tw_Sp_mono (c_cut (d := 9) (e := 9) hr hx) (fun g r hC => ?_))
    obtain ⟨rfl, hM⟩ := hC
    show X 204 _ [] tx_L0 g
    refine hg g ?_
    refine zk_V h [tw_I x] rfl rfl rfl rfl (Nat.le_of_ble_eq_true rfl) (tw_Sp_mono hM (fun g2 r2 hQ => ?_))
    obtain ⟨rfl, tm2, hr2⟩ := hQ
    show X 215 _ [] tx_L0 g2
    refine zi_goto h rfl ?_
    exact kk g2 tm2 hr2
  refine zc_ifeq h rfl (fun hc => ?_) (fun hc => ?_)
  · refine zn_iconst h 0 rfl rfl ?_
    refine key 0 (Or.inl rfl) (fun g hg => ?_)
    refine zi_aload_n h rfl rfl ?_
    refine zi_aloadZ h rfl rfl ?_
    refine zi_iload h rfl rfl ?_
    refine zn_iconst h 1 rfl rfl ?_
    refine zn_iadd h rfl ?_
    refine zq_scr h rfl rfl (by omega) hN ?_
    refine zc_ifeq h rfl (fun _ => ?_) (fun hc2 => absurd hc hc2)
    refine zn_iconst h 0 rfl rfl ?_
    exact hg
  · refine zn_iconst h 1 rfl rfl ?_
    refine zi_goto h rfl ?_
    refine key 1 (Or.inr rfl) (fun g hg => ?_)
    refine zi_aload_n h rfl rfl ?_
    refine zi_aloadZ h rfl rfl ?_
    refine zi_iload h rfl rfl ?_
    refine zn_iconst h 1 rfl rfl ?_
    refine zn_iadd h rfl ?_
    refine zq_scr h rfl rfl (by omega) hN ?_
    refine zc_ifeq h rfl (fun hc2 => absurd hc2 hc) (fun _ => ?_)
    refine zn_iconst h 1 rfl rfl ?_
    refine zi_goto h rfl ?_
    exact hg
set_option maxRecDepth 20000 in
theorem lw_ticket {N : Nat} {xs : Nat → Int32} {X X2 : tw_X} (h : lwC N xs X) (h2 : lwC N xs X2) (hN : N ≤ 2048) {k : Nat} (hk : 4 * k + 4 ≤ N) {l5 l6 : Option tw_A} {f : tw_S} {tm : Nat} (hr : rR f f tm) (kk : ∀ l5 l6 f2 tm2, rR f2 f2 tm2 → X2 489 (lwS k l5 l6) [] tx_L0 f2) (hH : lwT X X2 96 7) : X 89 (lwS k l5 l6) [] tx_L0 f := by
  refine zi_aload_n h rfl rfl ?_
  refine zi_aloadZ h rfl rfl ?_
  refine zi_iload h rfl rfl ?_
  refine zn_iconst h 1 rfl rfl ?_
  refine zn_iadd h rfl ?_
  refine zq_scr h rfl rfl (by omega) hN ?_
  refine zi_aload_n h rfl rfl ?_
  obtain ⟨ht2, ht, htm, hTT⟩ := hr.2.2.1
  refine hH _ f tm _ ht ht2 (fun j hj hp => ?_) (fun hb => ?_)
  · refine zi_istore h2 rfl (Nat.le_of_ble_eq_true rfl) ?_
    refine zi_aload_n h2 rfl rfl ?_
    refine zi_aloadZ h2 rfl rfl ?_
    refine zi_iload h2 rfl rfl ?_
    refine zn_iconst h2 1 rfl rfl ?_
    refine zn_iadd h2 rfl ?_
    refine zq_scr h2 rfl rfl (by omega) hN ?_
    refine zk_V h2 [_] rfl rfl rfl rfl (Nat.le_of_ble_eq_true rfl) (s_m_ticket (d := 8) (tm := tm) rfl (by rw [tw_off (by omega), tw_off (by omega)]; exact htm) ht2 (fun j2 hj2 hp2 => ?_) (fun hb => ?_))
    · have hjj : j = j2 := (nI_eq (by omega) (by omega)).mp (hp.symm.trans hp2)
      subst hjj
      show X2 105 _ [tw_I _] tx_L0 _
      refine zi_istore h2 rfl (Nat.le_of_ble_eq_true rfl) ?_
      refine zi_aload_n h2 rfl rfl ?_
      refine zk_V h2 [] rfl rfl rfl rfl (Nat.le_of_ble_eq_true rfl) (s_k_thrown (d := 9) ?_)
      show X2 108 _ [tw_I _] tx_L0 _
      refine zi_iload h2 rfl rfl ?_
      refine zc_icmpeq h2 rfl (fun _ => ?_) (fun hc => absurd (if_pos ⟨rfl, rfl⟩) hc)
      refine zi_iload h2 rfl rfl ?_
      refine zc_ifne h2 rfl (fun hc => absurd rfl hc) (fun _ => ?_)
      refine zi_aload_n h2 rfl rfl ?_
      refine zn_iconst h2 0 rfl rfl ?_
      refine zi_laload h2 rfl rfl (vp_in_nI (by omega) (by omega)) ?_
      refine zi_iload h2 rfl rfl ?_
      refine zi_i2l h2 rfl ?_
      refine zi_lcmp h2 rfl ?_
      refine zc_ifeq h2 rfl (fun _ => ?_) (fun hc => absurd ?_ hc)
      · refine zi_goto h2 rfl ?_
        exact kk _ _ _ tm (rR_610 (rR_108 hr _) 0)
      · have e1 : tw_up (tw_up f 108 0 (f 7 j)) 61 0 0 108 (nI 0).toNatClampNeg = f 7 j := by
          rw [nI_clamp (by omega), tw_off (by omega)]
          exact if_pos ⟨rfl, rfl⟩
        have e2 : tw_up (tw_up f 108 0 (f 7 j)) 61 0 0 99 j = f 7 j := by
          rw [tw_off (by omega), tw_off (by omega)]
          exact (hTT j hj).1
        rw [e1, e2]
        exact lg_cmp_self _
    · exfalso
      rw [hp] at hb
      rcases hb with hb | hb
      · exact nI_pos (by omega) hb
      · have := (nI_leI (by omega) (by omega)).mp hb
        omega
  · refine zi_istore h2 rfl (Nat.le_of_ble_eq_true rfl) ?_
    refine zi_aload_n h2 rfl rfl ?_
    refine zi_aloadZ h2 rfl rfl ?_
    refine zi_iload h2 rfl rfl ?_
    refine zn_iconst h2 1 rfl rfl ?_
    refine zn_iadd h2 rfl ?_
    refine zq_scr h2 rfl rfl (by omega) hN ?_
    refine zk_V h2 [_] rfl rfl rfl rfl (Nat.le_of_ble_eq_true rfl) (s_m_ticket (d := 8) (tm := tm) rfl (by rw [tw_off (by omega)]; exact htm) ht2 (fun j hj hp => ?_) (fun _ => ?_))
    · exfalso
      rw [hp] at hb
      rcases hb with hb | hb
      · exact nI_pos (by omega) hb
      · have := (nI_leI (by omega) (by omega)).mp hb
        omega
    · show X2 105 _ [tw_I _] tx_L0 _
      refine zi_istore h2 rfl (Nat.le_of_ble_eq_true rfl) ?_
      refine zi_aload_n h2 rfl rfl ?_
      refine zk_V h2 [] rfl rfl rfl rfl (Nat.le_of_ble_eq_true rfl) (s_k_thrown (d := 9) ?_)
      show X2 108 _ [tw_I _] tx_L0 _
      refine zi_iload h2 rfl rfl ?_
      refine zc_icmpeq h2 rfl (fun _ => ?_) (fun hc => absurd (if_pos ⟨rfl, rfl⟩) hc)
      refine zi_iload h2 rfl rfl ?_
      refine zc_ifne h2 rfl (fun _ => ?_) (fun hc => absurd hc (by decide))
      refine zi_goto h2 rfl ?_
      exact kk _ _ _ tm (rR_610 (rR_610 hr 0) 1)
set_option maxRecDepth 20000 in
theorem lw_value {N : Nat} {xs : Nat → Int32} {X X2 : tw_X} (h : lwC N xs X) (h2 : lwC N xs X2) (hN : N ≤ 2048) {k : Nat} (hk : 4 * k + 4 ≤ N) {l5 l6 : Option tw_A} {f : tw_S} {tm : Nat} (hr : rR f f tm) (kk : ∀ l5 l6 f2 tm2, rR f2 f2 tm2 → X2 489 (lwS k l5 l6) [] tx_L0 f2) (hH : lwT X X2 131 8) : X 124 (lwS k l5 l6) [] tx_L0 f := by
  refine zi_aload_n h rfl rfl ?_
  refine zi_aloadZ h rfl rfl ?_
  refine zi_iload h rfl rfl ?_
  refine zn_iconst h 1 rfl rfl ?_
  refine zn_iadd h rfl ?_
  refine zq_scr h rfl rfl (by omega) hN ?_
  refine zi_aload_n h rfl rfl ?_
  obtain ⟨ht2, ht, htm, hTT⟩ := hr.2.2.1
  refine hH _ f tm _ ht ht2 (fun j hj hp => ?_) (fun hb => ?_)
  · refine zi_istore h2 rfl (Nat.le_of_ble_eq_true rfl) ?_
    refine zi_aload_n h2 rfl rfl ?_
    refine zi_aloadZ h2 rfl rfl ?_
    refine zi_iload h2 rfl rfl ?_
    refine zn_iconst h2 1 rfl rfl ?_
    refine zn_iadd h2 rfl ?_
    refine zq_scr h2 rfl rfl (by omega) hN ?_
    refine zk_V h2 [_] rfl rfl rfl rfl (Nat.le_of_ble_eq_true rfl) (s_m_value (d := 8) (tm := tm) rfl (by rw [tw_off (by omega), tw_off (by omega)]; exact htm) ht2 (fun j2 hj2 hp2 => ?_) (fun hb => ?_))
    · have hjj : j = j2 := (nI_eq (by omega) (by omega)).mp (hp.symm.trans hp2)
      subst hjj
      show X2 140 _ [tw_I _] tx_L0 _
      refine zi_istore h2 rfl (Nat.le_of_ble_eq_true rfl) ?_
      refine zi_aload_n h2 rfl rfl ?_
      refine zk_V h2 [] rfl rfl rfl rfl (Nat.le_of_ble_eq_true rfl) (s_k_thrown (d := 9) ?_)
      show X2 143 _ [tw_I _] tx_L0 _
      refine zi_iload h2 rfl rfl ?_
      refine zc_icmpeq h2 rfl (fun _ => ?_) (fun hc => absurd (if_pos ⟨rfl, rfl⟩) hc)
      refine zi_iload h2 rfl rfl ?_
      refine zc_ifne h2 rfl (fun hc => absurd rfl hc) (fun _ => ?_)
      refine zi_aload_n h2 rfl rfl ?_
      refine zn_iconst h2 0 rfl rfl ?_
      refine zi_laload h2 rfl rfl (vp_in_nI (by omega) (by omega)) ?_
      refine zi_iload h2 rfl rfl ?_
      refine zi_i2l h2 rfl ?_
      refine zi_lcmp h2 rfl ?_
      refine zc_ifeq h2 rfl (fun _ => ?_) (fun hc => absurd ?_ hc)
      · refine zi_goto h2 rfl ?_
        exact kk _ _ _ tm (rR_610 (rR_108 hr _) 0)
      · have e1 : tw_up (tw_up f 108 0 (f 8 j)) 61 0 0 108 (nI 0).toNatClampNeg = f 8 j := by
          rw [nI_clamp (by omega), tw_off (by omega)]
          exact if_pos ⟨rfl, rfl⟩
        have e2 : tw_up (tw_up f 108 0 (f 8 j)) 61 0 0 100 j = f 8 j := by
          rw [tw_off (by omega), tw_off (by omega)]
          exact (hTT j hj).2.1
        rw [e1, e2]
        exact lg_cmp_self _
    · exfalso
      rw [hp] at hb
      rcases hb with hb | hb
      · exact nI_pos (by omega) hb
      · have := (nI_leI (by omega) (by omega)).mp hb
        omega
  · refine zi_istore h2 rfl (Nat.le_of_ble_eq_true rfl) ?_
    refine zi_aload_n h2 rfl rfl ?_
    refine zi_aloadZ h2 rfl rfl ?_
    refine zi_iload h2 rfl rfl ?_
    refine zn_iconst h2 1 rfl rfl ?_
    refine zn_iadd h2 rfl ?_
    refine zq_scr h2 rfl rfl (by omega) hN ?_
    refine zk_V h2 [_] rfl rfl rfl rfl (Nat.le_of_ble_eq_true rfl) (s_m_value (d := 8) (tm := tm) rfl (by rw [tw_off (by omega)]; exact htm) ht2 (fun j hj hp => ?_) (fun _ => ?_))
    · exfalso
      rw [hp] at hb
      rcases hb with hb | hb
      · exact nI_pos (by omega) hb
      · have := (nI_leI (by omega) (by omega)).mp hb
        omega
    · show X2 140 _ [tw_I _] tx_L0 _
      refine zi_istore h2 rfl (Nat.le_of_ble_eq_true rfl) ?_
      refine zi_aload_n h2 rfl rfl ?_
      refine zk_V h2 [] rfl rfl rfl rfl (Nat.le_of_ble_eq_true rfl) (s_k_thrown (d := 9) ?_)
      show X2 143 _ [tw_I _] tx_L0 _
      refine zi_iload h2 rfl rfl ?_
      refine zc_icmpeq h2 rfl (fun _ => ?_) (fun hc => absurd (if_pos ⟨rfl, rfl⟩) hc)
      refine zi_iload h2 rfl rfl ?_
      refine zc_ifne h2 rfl (fun _ => ?_) (fun hc => absurd hc (by decide))
      refine zi_goto h2 rfl ?_
      exact kk _ _ _ tm (rR_610 (rR_610 hr 0) 1)
set_option maxRecDepth 20000 in
theorem lw_onDisk {N : Nat} {xs : Nat → Int32} {X X2 : tw_X} (h : lwC N xs X) (h2 : lwC N xs X2) (hN : N ≤ 2048) {k : Nat} (hk : 4 * k + 4 ≤ N) {l5 l6 : Option tw_A} {f : tw_S} {tm : Nat} (hr : rR f f tm) (kk : ∀ l5 l6 f2 tm2, rR f2 f2 tm2 → X2 489 (lwS k l5 l6) [] tx_L0 f2) (hH : lwD X X2 412) : X 400 (lwS k l5 l6) [] tx_L0 f := by
  refine zi_aload_n h rfl rfl ?_
  refine zi_aloadZ h rfl rfl ?_
  refine zi_iload h rfl rfl ?_
  refine zn_iconst h 1 rfl rfl ?_
  refine zn_iadd h rfl ?_
  refine zq_scr h rfl rfl (by omega) hN ?_
  refine zi_aloadZ h rfl rfl ?_
  refine zi_iload h rfl rfl ?_
  refine zn_iconst h 2 rfl rfl ?_
  refine zn_iadd h rfl ?_
  refine zq_scr h rfl rfl (by omega) hN ?_
  refine zi_aload_n h rfl rfl ?_
  obtain ⟨hD1, hD2, hD3, hD4⟩ := hr.1
  have thrown : ∀ l5 : Option tw_A, X2 428 (lwS k (some (tw_I 1)) l5) [tw_R 61] tx_L0 (tw_up (tw_up f 61 0 0) 61 0 1) := by
    intro l5
    refine zk_V h2 [] rfl rfl rfl rfl (Nat.le_of_ble_eq_true rfl) (s_k_thrown (d := 9) ?_)
    show X2 429 _ [tw_I _] tx_L0 _
    refine zi_iload h2 rfl rfl ?_
    refine zc_icmpeq h2 rfl (fun _ => ?_) (fun hc => absurd (if_pos ⟨rfl, rfl⟩) hc)
    refine zi_iload h2 rfl rfl ?_
    refine zc_ifne h2 rfl (fun _ => ?_) (fun hc => absurd hc (by decide))
    refine zi_goto h2 rfl ?_
    exact kk _ _ _ tm (rR_610 (rR_610 hr 0) 1)
  refine hH _ f _ _ (fun i s hi hs hp hq hm => ?_) (fun hb => ?_)
  · refine zi_istore h2 rfl (Nat.le_of_ble_eq_true rfl) ?_
    refine zi_aload_n h2 rfl rfl ?_
    refine zi_aloadZ h2 rfl rfl ?_
    refine zi_iload h2 rfl rfl ?_
    refine zn_iconst h2 1 rfl rfl ?_
    refine zn_iadd h2 rfl ?_
    refine zq_scr h2 rfl rfl (by omega) hN ?_
    refine zi_aloadZ h2 rfl rfl ?_
    refine zi_iload h2 rfl rfl ?_
    refine zn_iconst h2 2 rfl rfl ?_
    refine zn_iadd h2 rfl ?_
    refine zq_scr h2 rfl rfl (by omega) hN ?_
    rw [hp, hq]
    refine zk_V h2 [_, _] rfl rfl rfl rfl (Nat.le_of_ble_eq_true rfl) (s_m_onDisk_i (d := 8) rfl hi hs (fun hm2 => absurd ?_ hm2) (fun _ => ?_))
    · rw [tw_off (by omega), tw_off (by omega), hD4]
      exact hm
    · show X2 426 _ [tw_I _] tx_L0 _
      refine zi_istore h2 rfl (Nat.le_of_ble_eq_true rfl) ?_
      refine zi_aload_n h2 rfl rfl ?_
      refine zk_V h2 [] rfl rfl rfl rfl (Nat.le_of_ble_eq_true rfl) (s_k_thrown (d := 9) ?_)
      show X2 429 _ [tw_I _] tx_L0 _
      refine zi_iload h2 rfl rfl ?_
      refine zc_icmpeq h2 rfl (fun _ => ?_) (fun hc => absurd (if_pos ⟨rfl, rfl⟩) hc)
      refine zi_iload h2 rfl rfl ?_
      refine zc_ifne h2 rfl (fun hc => absurd rfl hc) (fun _ => ?_)
      refine zi_aload_n h2 rfl rfl ?_
      refine zn_iconst h2 0 rfl rfl ?_
      refine zi_laload h2 rfl rfl (vp_in_nI (by omega) (by omega)) ?_
      refine zi_iload h2 rfl rfl ?_
      refine zi_i2l h2 rfl ?_
      refine zi_lcmp h2 rfl ?_
      refine zc_ifeq h2 rfl (fun _ => ?_) (fun hc => absurd ?_ hc)
      · refine zi_goto h2 rfl ?_
        exact kk _ _ _ tm (rR_610 (rR_108 hr _) 0)
      · have e1 : tw_up (tw_up f 108 0 (f 4 (i * 8 + s))) 61 0 0 108 (nI 0).toNatClampNeg = f 4 (i * 8 + s) := by
          rw [nI_clamp (by omega), tw_off (by omega)]
          exact if_pos ⟨rfl, rfl⟩
        have e2 : tw_up (tw_up f 108 0 (f 4 (i * 8 + s))) 61 0 0 64 (i * 8 + s) = f 4 (i * 8 + s) := by
          rw [tw_off (by omega), tw_off (by omega), hD3]
        rw [e1, e2]
        exact lg_cmp_self _
  · refine zi_istore h2 rfl (Nat.le_of_ble_eq_true rfl) ?_
    refine zi_aload_n h2 rfl rfl ?_
    refine zi_aloadZ h2 rfl rfl ?_
    refine zi_iload h2 rfl rfl ?_
    refine zn_iconst h2 1 rfl rfl ?_
    refine zn_iadd h2 rfl ?_
    refine zq_scr h2 rfl rfl (by omega) hN ?_
    refine zi_aloadZ h2 rfl rfl ?_
    refine zi_iload h2 rfl rfl ?_
    refine zn_iconst h2 2 rfl rfl ?_
    refine zn_iadd h2 rfl ?_
    refine zq_scr h2 rfl rfl (by omega) hN ?_
    have fin : X2 426 (lwS k (some (tw_I 1)) l6) [tw_I 0] tx_L0 (tw_up (tw_up f 61 0 0) 61 0 1) := by
      refine zi_istore h2 rfl (Nat.le_of_ble_eq_true rfl) ?_
      refine zi_aload_n h2 rfl rfl ?_
      exact thrown _
    rcases hb with hb | hb | ⟨i, s, hi, hs, hp, hq, hm⟩
    · exact zk_V h2 [_, _] rfl rfl rfl rfl (Nat.le_of_ble_eq_true rfl) (s_m_onDisk_x (d := 8) rfl (Or.inl hb) fin)
    · exact zk_V h2 [_, _] rfl rfl rfl rfl (Nat.le_of_ble_eq_true rfl) (s_m_onDisk_x (d := 8) rfl (Or.inr hb) fin)
    · rw [hp, hq]
      refine zk_V h2 [_, _] rfl rfl rfl rfl (Nat.le_of_ble_eq_true rfl) (s_m_onDisk_i (d := 8) rfl hi hs (fun _ => fin) (fun hm2 => absurd ?_ hm))
      rw [tw_off (by omega), hD4] at hm2
      exact hm2
