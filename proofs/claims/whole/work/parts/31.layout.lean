/-! The layout behind the constructors, and a short name for a method's spec over it. -/
def tx_L0 : tw_L := [(8, 6, [some 1, some 6, some 12, some 17, some 39, none]), (3, 4, [some 2, some 3, some 4, some 5]), (101, 5, []), (100, 5, []), (100, 40, []), (101, 40, []), (7, 6, [some 7, some 8, some 9, some 10, some 11, none]), (100, 200, []), (100, 200, []), (100, 200, []), (100, 200, []), (100, 200, []), (6, 5, [some 13, some 14, some 15, some 16, none]), (100, 20, []), (100, 20, []), (100, 20, []), (100, 20, []), (0, 19, [none, some 18, some 23, some 28, some 34, some 38, none, none, none, none, none, none, none, none, none, none, none, none, none]), (4, 4, [some 19, some 20, some 21, some 22]), (101, 32, []), (101, 32, []), (100, 32, []), (100, 32, []), (4, 4, [some 24, some 25, some 26, some 27]), (101, 32, []), (101, 32, []), (100, 32, []), (100, 32, []), (5, 7, [some 29, some 30, some 31, some 32, some 33, none, none]), (100, 40, []), (100, 40, []), (100, 40, []), (100, 40, []), (100, 40, []), (1, 7, [some 35, some 36, some 37, none, none, none, none]), (101, 4, []), (100, 4, []), (100, 4, []), (2, 5, [none, none, none, none, none]), (0, 19, [none, some 40, some 45, some 50, some 56, some 60, none, none, none, none, none, none, none, none, none, none, none, none, none]), (4, 4, [some 41, some 42, some 43, some 44]), (101, 32, []), (101, 32, []), (100, 32, []), (100, 32, []), (4, 4, [some 46, some 47, some 48, some 49]), (101, 32, []), (101, 32, []), (100, 32, []), (100, 32, []), (5, 7, [some 51, some 52, some 53, some 54, some 55, none, none]), (100, 40, []), (100, 40, []), (100, 40, []), (100, 40, []), (100, 40, []), (1, 7, [some 57, some 58, some 59, none, none, none, none]), (101, 4, []), (100, 4, []), (100, 4, []), (2, 5, [none, none, none, none, none]), (9, 50, [none, some 62, some 63, some 64, some 65, some 66, some 67, some 68, some 69, some 70, some 71, some 72, some 73, some 74, some 75, some 76, some 77, some 78, some 79, some 80, some 81, some 82, some 83, some 84, some 85, some 86, some 87, some 88, some 89, some 90, some 91, some 92, some 93, some 94, some 95, some 96, some 97, some 98, none, none, some 99, some 100, some 101, some 102, some 103, none, some 104, some 105, some 106, some 107]), (101, 5, []), (100, 5, []), (100, 40, []), (101, 40, []), (101, 2, []), (100, 2, []), (101, 2, []), (101, 4, []), (101, 64, []), (100, 64, []), (100, 64, []), (101, 64, []), (101, 64, []), (100, 64, []), (100, 64, []), (101, 16, []), (101, 16, []), (101, 16, []), (100, 2, []), (100, 2, []), (100, 2, []), (100, 2, []), (101, 2, []), (100, 2, []), (100, 2, []), (100, 2, []), (100, 2, []), (101, 8, []), (100, 8, []), (100, 8, []), (100, 2, []), (101, 2, []), (101, 2, []), (100, 2, []), (100, 2, []), (100, 400, []), (100, 2, []), (100, 200, []), (100, 200, []), (100, 200, []), (100, 200, []), (100, 200, []), (100, 20, []), (100, 20, []), (100, 20, []), (100, 20, []), (102, 1, [])]
abbrev tS (fl : Bool) (d k : Nat) (As : List tw_A) (f : tw_S) (P : tw_S → Option tw_A → Prop) : Prop := tw_Sp tx_mt tx_sw tx_ft fl d k As tx_L0 f tx_L0 P
/-- another spelling of the same memory -/
theorem tw_mem {X : tw_X} {ix : Nat} {ls : List (Option tw_A)} {st : List tw_A} {L : tw_L} {f g : tw_S} (e : ∀ q i, f q i = g q i) (h : X ix ls st L g) : X ix ls st L f := by
  have e2 : f = g := funext fun q => funext fun i => e q i
  rw [e2]
  exact h
theorem tw_n0 : nI 0 = 0 := rfl
theorem tw_n1 : nI 1 = 1 := rfl
theorem tw_n2 : nI 2 = 2 := rfl
theorem tx_ctl {q : Nat} (h : q = 17 ∨ q = 39) : tx_L0[q]? = some (0, 19, [none, some (q + 1), some (q + 6), some (q + 11), some (q + 17), some (q + 21), none, none, none, none, none, none, none, none, none, none, none, none, none]) := by rcases h with rfl | rfl <;> rfl
def tx_isE (q : Nat) : Prop := q = 18 ∨ q = 23 ∨ q = 40 ∨ q = 45
theorem tx_ent {q : Nat} (h : tx_isE q) : tx_L0[q]? = some (4, 4, [some (q + 1), some (q + 2), some (q + 3), some (q + 4)]) ∧ tx_L0[q + 1]? = some (101, 32, []) ∧ tx_L0[q + 2]? = some (101, 32, []) ∧ tx_L0[q + 3]? = some (100, 32, []) ∧ tx_L0[q + 4]? = some (100, 32, []) := by rcases h with rfl | rfl | rfl | rfl <;> exact ⟨rfl, rfl, rfl, rfl, rfl⟩
theorem tx_inb {q : Nat} (h : q = 28 ∨ q = 50) : tx_L0[q]? = some (5, 7, [some (q + 1), some (q + 2), some (q + 3), some (q + 4), some (q + 5), none, none]) ∧ tx_L0[q + 1]? = some (100, 40, []) ∧ tx_L0[q + 2]? = some (100, 40, []) ∧ tx_L0[q + 3]? = some (100, 40, []) ∧ tx_L0[q + 4]? = some (100, 40, []) ∧ tx_L0[q + 5]? = some (100, 40, []) := by rcases h with rfl | rfl <;> exact ⟨rfl, rfl, rfl, rfl, rfl, rfl⟩
theorem tx_des {q : Nat} (h : q = 34 ∨ q = 56) : tx_L0[q]? = some (1, 7, [some (q + 1), some (q + 2), some (q + 3), none, none, none, none]) ∧ tx_L0[q + 1]? = some (101, 4, []) ∧ tx_L0[q + 2]? = some (100, 4, []) ∧ tx_L0[q + 3]? = some (100, 4, []) := by rcases h with rfl | rfl <;> exact ⟨rfl, rfl, rfl, rfl⟩
theorem tx_dwr {q : Nat} (h : q = 38 ∨ q = 60) : tx_L0[q]? = some (2, 5, [none, none, none, none, none]) := by rcases h with rfl | rfl <;> rfl
/-- from i on, n places: the first place where g is not 0, else the place behind them -/
def p_ft (g : Nat → Int32) : Nat → Nat → Nat
  | 0, i => i
  | n + 1, i => if g i = 0 then p_ft g n (i + 1) else i
theorem p_ft_le (g : Nat → Int32) : ∀ n i, i ≤ p_ft g n i ∧ p_ft g n i ≤ i + n
  | 0, i => ⟨Nat.le_refl _, Nat.le_refl _⟩
  | n + 1, i => by
    have h := p_ft_le g n (i + 1)
    unfold p_ft
    split
    · omega
    · omega
/-- the greatest key of the first n disks that are there -/
def p_great (th ks : Nat → Int32) : Nat → Int32
  | 0 => 0
  | n + 1 => if th n = 0 then p_great th ks n else if p_great th ks n < ks n then ks n else p_great th ks n
/-- how many of the first n disks that are there have another key -/
def p_other (th ks : Nat → Int32) (key : Int32) : Nat → Nat
  | 0 => 0
  | n + 1 => p_other th ks key n + (if ¬ th n = 0 ∧ ¬ ks n = key then 1 else 0)
/-- is a block of the stripe missing on another of the first n disks? -/
def p_om (mi : Nat → Int32) (i s n : Nat) : Prop := ∃ o, o < n ∧ o ≠ i ∧ ¬ mi (o * 8 + s) = 0
theorem p_om_succ {mi : Nat → Int32} {i s n : Nat} (h : ¬ p_om mi i s n) (h2 : n = i ∨ mi (n * 8 + s) = 0) : ¬ p_om mi i s (n + 1) := by
  rintro ⟨o, h3, h4, h5⟩
  by_cases ho : o < n
  · exact h ⟨o, ho, h4, h5⟩
  · obtain rfl : o = n := by omega
    rcases h2 with h2 | h2
    · exact h4 h2
    · exact h5 h2
/-- the blocks of the stripe on the other of the first n disks, joined by xor -/
def p_xor (bl : Nat → Int32) (i s : Nat) : Nat → Int32
  | 0 => 0
  | n + 1 => if n = i then p_xor bl i s n else p_xor bl i s n ^^^ bl (n * 8 + s)
def p_pd (s : Nat) : Nat := 4 - s % 5
def p_dd (s k : Nat) : Nat := if k < p_pd s then k else k + 1
theorem p_dd_lt {s k : Nat} (h : k < 4) : p_dd s k < 5 := by
  unfold p_dd
  split <;> omega
/-- how many of the first n places are not 0 -/
def p_cnt (g : Nat → Int32) : Nat → Nat
  | 0 => 0
  | n + 1 => p_cnt g n + (if g n = 0 then 0 else 1)
theorem p_cnt_le (g : Nat → Int32) : ∀ n, p_cnt g n ≤ n
  | 0 => Nat.le_refl _
  | n + 1 => by
    have h := p_cnt_le g n
    unfold p_cnt
    split <;> omega
def p_cd (g : Nat → Int32) : Nat → Nat
  | 0 => 0
  | n + 1 => p_cd g n + p_cnt (fun j => g (n * 4 + j)) 4
theorem p_cd_le (g : Nat → Int32) : ∀ n, p_cd g n ≤ 4 * n
  | 0 => Nat.le_refl _
  | n + 1 => by
    have h := p_cd_le g n
    have h2 := p_cnt_le (fun j => g (n * 4 + j)) 4
    unfold p_cd
    omega
/-- the stripe of the first n + 1 that has the most places that are not 0, the lowest of them -/
def p_ds (g : Nat → Int32) : Nat → Nat
  | 0 => 0
  | n + 1 => if p_cnt (fun j => g (p_ds g n * 4 + j)) 4 < p_cnt (fun j => g ((n + 1) * 4 + j)) 4 then n + 1 else p_ds g n
theorem p_ds_le (g : Nat → Int32) : ∀ n, p_ds g n ≤ n
  | 0 => Nat.le_refl _
  | n + 1 => by
    have h := p_ds_le g n
    unfold p_ds
    split <;> omega
def p_x4 (g : Nat → Int32) : Nat → Int32
  | 0 => 0
  | n + 1 => p_x4 g n ^^^ g n
theorem tw_memP {P : tw_S → Option tw_A → Prop} {r : Option tw_A} {f g : tw_S} (e : ∀ q i, f q i = g q i) (h : P g r) : P f r := by
  have e2 : f = g := funext fun q => funext fun i => e q i
  rw [e2]
  exact h
theorem tx_c1 {q : Nat} (h : q = 17 ∨ q = 39) : tx_isE (q + 1) := by rcases h with rfl | rfl <;> simp [tx_isE]
theorem tx_c6 {q : Nat} (h : q = 17 ∨ q = 39) : tx_isE (q + 6) := by rcases h with rfl | rfl <;> simp [tx_isE]
theorem tx_c11 {q : Nat} (h : q = 17 ∨ q = 39) : q + 11 = 28 ∨ q + 11 = 50 := by omega
theorem tx_c17 {q : Nat} (h : q = 17 ∨ q = 39) : q + 17 = 34 ∨ q + 17 = 56 := by omega
theorem tx_c21 {q : Nat} (h : q = 17 ∨ q = 39) : q + 21 = 38 ∨ q + 21 = 60 := by omega
/-- is the bit n of x set? -/
def p_bit (x : Int32) (n : Nat) : Prop := x >>> (nI n &&& 31) &&& 1 = 1
theorem nI_zero {n : Nat} (h : n < 2 ^ 31) : nI n = 0 ↔ n = 0 := nI_eq (b := 0) h (by omega)
theorem tw_cgf {f : tw_S} {a b a2 b2 : Nat} (h1 : a = a2) (h2 : b = b2) : f a b = f a2 b2 := by rw [h1, h2]
/-- all entries dropped -/
def p_drop (f : tw_S) (q : Nat) : tw_S := fun c j => if (c = q + 1 ∨ c = q + 2) ∧ j < 32 then 0 else f c j
def p_forget (f : tw_S) (q : Nat) : tw_S := tw_up (tw_up (p_drop (p_drop (tw_up (tw_up (tw_up (tw_up (tw_up (tw_up (tw_up (tw_up (tw_up (tw_up f q 6 0) q 7 0) q 8 0) q 9 0) q 11 0) q 12 0) q 13 0) q 14 0) q 15 0) q 16 0) (q + 1)) (q + 6)) (q + 17) 3 (-1)) (q + 21) 0 0
def p_begin (f : tw_S) (q : Nat) (x : Int32) : tw_S := tw_up (tw_up (tw_up (p_drop (p_drop (tw_up (tw_up f q 7 1) q 10 x) (q + 1)) (q + 6)) (q + 11) 6 0) q 13 0) q 15 0
def p_sl (f : tw_S) (q : Nat) : Nat := ((f (q + 11) 5).toNatClampNeg + (f (q + 11) 6).toNatClampNeg) % 40
/-- a message to the controller at q: kind, place, value, version, ticket -/
def p_send (f : tw_S) (q : Nat) (k p v w t : Int32) : tw_S := if f 0 5 = 0 ∧ (f (q + 11) 6).toNatClampNeg < 40 then tw_up (tw_up (tw_up (tw_up (tw_up (tw_up f (q + 12) (p_sl f q) k) (q + 13) (p_sl f q) p) (q + 14) (p_sl f q) v) (q + 15) (p_sl f q) w) (q + 16) (p_sl f q) t) (q + 11) 6 (f (q + 11) 6 + 1) else f
/-- the inbox's numbers are in their ranges -/
def p_box (f : tw_S) (q : Nat) : Prop := ∃ a m : Nat, f (q + 11) 5 = nI a ∧ a < 40 ∧ f (q + 11) 6 = nI m ∧ m ≤ 40
def p_sip (f : tw_S) (q : Nat) (k p w : Int32) : tw_S := if f q 7 = 0 then f else p_send f (56 - q) k p 0 w (-1)
def p_late (f : tw_S) (q : Nat) : tw_S := if f q 0 = 0 ∨ ¬ (f 12 4).toNatClampNeg < 20 then f else tw_up (tw_up (tw_up (tw_up (tw_up f 13 (f 12 4).toNatClampNeg (f q 1)) 14 (f 12 4).toNatClampNeg (f q 2)) 15 (f 12 4).toNatClampNeg (f q 3)) 16 (f 12 4).toNatClampNeg (f q 4)) 12 4 (f 12 4 + 1)
def p_ref (f : tw_S) (x : Int32) : tw_S := fun c j => if c = 7 ∧ j < (f 6 5).toNatClampNeg ∧ f 7 j = 0 ∧ f 9 j = x then 2 else f c j
def p_down (f : tw_S) (q : Nat) : tw_S := p_forget (p_ref (p_late f (q + 21)) (f q 0)) q
def p_fin (f : tw_S) (x y w : Int32) : tw_S := fun c j => if c = 7 ∧ j < (f 6 5).toNatClampNeg ∧ f 9 j = x ∧ f 10 j = y ∧ ¬ w < f 11 j ∧ f 7 j = 0 then 1 else f c j
theorem tw_off {f : tw_S} {q i c j : Nat} {x : Int32} (h : ¬ (c = q ∧ j = i)) : tw_up f q i x c j = f c j := if_neg h
theorem p_down_eq {f g : tw_S} {q tm : Nat} (hg : p_late f (q + 21) = g) (h6 : g 6 5 = nI tm) (ht : tm ≤ 200) (h0 : g q 0 = f q 0) : p_down f q = p_forget (fun c j => if c = 7 ∧ j < tm ∧ g 7 j = 0 ∧ g 9 j = g q 0 then 2 else g c j) q := by
  unfold p_down p_ref
  rw [hg, h6, nI_clamp (by omega), h0]
/-- fewer ends are closed under the rules too -/
theorem tw_Cl_mono {mt : List tw_MR} {sw : tw_SW} {ft : Nat → Nat → Nat} {fl : Bool} {xs : Option (Nat × (Nat → Int32))} {Sp : tw_SP} {Lf : tw_L} {P P2 : tw_S → Option tw_A → Prop} {t : tw_T} {X : tw_X} (h : tw_Cl mt sw ft fl xs Sp Lf P2 t X) (hP : ∀ g r, P g r → P2 g r) : tw_Cl mt sw ft fl xs Sp Lf P t X :=
  ⟨h.1, h.2.1, h.2.2.1, h.2.2.2.1, h.2.2.2.2.1, h.2.2.2.2.2.1, h.2.2.2.2.2.2.1, h.2.2.2.2.2.2.2.1, h.2.2.2.2.2.2.2.2.1, h.2.2.2.2.2.2.2.2.2.1, h.2.2.2.2.2.2.2.2.2.2.1, h.2.2.2.2.2.2.2.2.2.2.2.1, h.2.2.2.2.2.2.2.2.2.2.2.2.1, h.2.2.2.2.2.2.2.2.2.2.2.2.2.1, h.2.2.2.2.2.2.2.2.2.2.2.2.2.2.1, h.2.2.2.2.2.2.2.2.2.2.2.2.2.2.2.1, h.2.2.2.2.2.2.2.2.2.2.2.2.2.2.2.2.1, h.2.2.2.2.2.2.2.2.2.2.2.2.2.2.2.2.2.1, h.2.2.2.2.2.2.2.2.2.2.2.2.2.2.2.2.2.2.1, h.2.2.2.2.2.2.2.2.2.2.2.2.2.2.2.2.2.2.2.1, h.2.2.2.2.2.2.2.2.2.2.2.2.2.2.2.2.2.2.2.2.1, h.2.2.2.2.2.2.2.2.2.2.2.2.2.2.2.2.2.2.2.2.2.1, h.2.2.2.2.2.2.2.2.2.2.2.2.2.2.2.2.2.2.2.2.2.2.1, h.2.2.2.2.2.2.2.2.2.2.2.2.2.2.2.2.2.2.2.2.2.2.2.1, h.2.2.2.2.2.2.2.2.2.2.2.2.2.2.2.2.2.2.2.2.2.2.2.2.1, h.2.2.2.2.2.2.2.2.2.2.2.2.2.2.2.2.2.2.2.2.2.2.2.2.2.1, h.2.2.2.2.2.2.2.2.2.2.2.2.2.2.2.2.2.2.2.2.2.2.2.2.2.2.1, h.2.2.2.2.2.2.2.2.2.2.2.2.2.2.2.2.2.2.2.2.2.2.2.2.2.2.2.1, h.2.2.2.2.2.2.2.2.2.2.2.2.2.2.2.2.2.2.2.2.2.2.2.2.2.2.2.2.1, h.2.2.2.2.2.2.2.2.2.2.2.2.2.2.2.2.2.2.2.2.2.2.2.2.2.2.2.2.2.1, h.2.2.2.2.2.2.2.2.2.2.2.2.2.2.2.2.2.2.2.2.2.2.2.2.2.2.2.2.2.2.1, h.2.2.2.2.2.2.2.2.2.2.2.2.2.2.2.2.2.2.2.2.2.2.2.2.2.2.2.2.2.2.2.1, h.2.2.2.2.2.2.2.2.2.2.2.2.2.2.2.2.2.2.2.2.2.2.2.2.2.2.2.2.2.2.2.2.1, h.2.2.2.2.2.2.2.2.2.2.2.2.2.2.2.2.2.2.2.2.2.2.2.2.2.2.2.2.2.2.2.2.2.1, h.2.2.2.2.2.2.2.2.2.2.2.2.2.2.2.2.2.2.2.2.2.2.2.2.2.2.2.2.2.2.2.2.2.2.1, h.2.2.2.2.2.2.2.2.2.2.2.2.2.2.2.2.2.2.2.2.2.2.2.2.2.2.2.2.2.2.2.2.2.2.2.1, h.2.2.2.2.2.2.2.2.2.2.2.2.2.2.2.2.2.2.2.2.2.2.2.2.2.2.2.2.2.2.2.2.2.2.2.2.1, h.2.2.2.2.2.2.2.2.2.2.2.2.2.2.2.2.2.2.2.2.2.2.2.2.2.2.2.2.2.2.2.2.2.2.2.2.2.1, fun ix pc a b c n v ls f x hi k => h.2.2.2.2.2.2.2.2.2.2.2.2.2.2.2.2.2.2.2.2.2.2.2.2.2.2.2.2.2.2.2.2.2.2.2.2.2.2.1 ix pc a b c n v ls f x hi (hP _ _ k), fun ix pc a b c n v ls f x hi h0 k => h.2.2.2.2.2.2.2.2.2.2.2.2.2.2.2.2.2.2.2.2.2.2.2.2.2.2.2.2.2.2.2.2.2.2.2.2.2.2.2.1 ix pc a b c n v ls f x hi h0 (hP _ _ k), fun ix pc a b c n v ls f hi k => h.2.2.2.2.2.2.2.2.2.2.2.2.2.2.2.2.2.2.2.2.2.2.2.2.2.2.2.2.2.2.2.2.2.2.2.2.2.2.2.2.1 ix pc a b c n v ls f hi (hP _ _ k), fun ix pc a b c n v ls f q hi k => h.2.2.2.2.2.2.2.2.2.2.2.2.2.2.2.2.2.2.2.2.2.2.2.2.2.2.2.2.2.2.2.2.2.2.2.2.2.2.2.2.2.1 ix pc a b c n v ls f q hi (hP _ _ k), h.2.2.2.2.2.2.2.2.2.2.2.2.2.2.2.2.2.2.2.2.2.2.2.2.2.2.2.2.2.2.2.2.2.2.2.2.2.2.2.2.2.2.1, h.2.2.2.2.2.2.2.2.2.2.2.2.2.2.2.2.2.2.2.2.2.2.2.2.2.2.2.2.2.2.2.2.2.2.2.2.2.2.2.2.2.2.2.1, h.2.2.2.2.2.2.2.2.2.2.2.2.2.2.2.2.2.2.2.2.2.2.2.2.2.2.2.2.2.2.2.2.2.2.2.2.2.2.2.2.2.2.2.2.1, h.2.2.2.2.2.2.2.2.2.2.2.2.2.2.2.2.2.2.2.2.2.2.2.2.2.2.2.2.2.2.2.2.2.2.2.2.2.2.2.2.2.2.2.2.2.1, h.2.2.2.2.2.2.2.2.2.2.2.2.2.2.2.2.2.2.2.2.2.2.2.2.2.2.2.2.2.2.2.2.2.2.2.2.2.2.2.2.2.2.2.2.2.2.1, h.2.2.2.2.2.2.2.2.2.2.2.2.2.2.2.2.2.2.2.2.2.2.2.2.2.2.2.2.2.2.2.2.2.2.2.2.2.2.2.2.2.2.2.2.2.2.2.1, h.2.2.2.2.2.2.2.2.2.2.2.2.2.2.2.2.2.2.2.2.2.2.2.2.2.2.2.2.2.2.2.2.2.2.2.2.2.2.2.2.2.2.2.2.2.2.2.2.1, h.2.2.2.2.2.2.2.2.2.2.2.2.2.2.2.2.2.2.2.2.2.2.2.2.2.2.2.2.2.2.2.2.2.2.2.2.2.2.2.2.2.2.2.2.2.2.2.2.2.1, h.2.2.2.2.2.2.2.2.2.2.2.2.2.2.2.2.2.2.2.2.2.2.2.2.2.2.2.2.2.2.2.2.2.2.2.2.2.2.2.2.2.2.2.2.2.2.2.2.2.2.1, h.2.2.2.2.2.2.2.2.2.2.2.2.2.2.2.2.2.2.2.2.2.2.2.2.2.2.2.2.2.2.2.2.2.2.2.2.2.2.2.2.2.2.2.2.2.2.2.2.2.2.2.1, h.2.2.2.2.2.2.2.2.2.2.2.2.2.2.2.2.2.2.2.2.2.2.2.2.2.2.2.2.2.2.2.2.2.2.2.2.2.2.2.2.2.2.2.2.2.2.2.2.2.2.2.2⟩
theorem tw_Sp_mono {mt : List tw_MR} {sw : tw_SW} {ft : Nat → Nat → Nat} {fl : Bool} {k : Nat} {As : List tw_A} {L L2 : tw_L} {f : tw_S} {P P2 : tw_S → Option tw_A → Prop} : ∀ {d : Nat}, tw_Sp mt sw ft fl d k As L f L2 P → (∀ g r, P g r → P2 g r) → tw_Sp mt sw ft fl d k As L f L2 P2
  | 0, h, _ => h
  | d + 1, ⟨r, h1, h2, h3, h4⟩, hP => ⟨r, h1, h2, h3, fun X hX => h4 X (tw_Cl_mono hX hP)⟩
