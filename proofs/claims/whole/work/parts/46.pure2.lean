/-! Pure words for destaging. -/
noncomputable def p_ite {α : Type} (p : Prop) (a b : α) : α := @ite α p (Classical.propDecidable p) a b
theorem p_ite_t {α : Type} {p : Prop} {a b : α} (h : p) : p_ite p a b = a := if_pos h
theorem p_ite_f {α : Type} {p : Prop} {a b : α} (h : ¬ p) : p_ite p a b = b := if_neg h
theorem p_box_send {f : tw_S} {q q2 : Nat} {k p v w t : Int32} (hq : q = 17 ∨ q = 39) (hq2 : q2 = 17 ∨ q2 = 39) (h : p_box f q2) : p_box (p_send f q k p v w t) q2 := by
  obtain ⟨a, m, h1, h2, h3, h4⟩ := h
  unfold p_send
  split
  · rename_i hc
    by_cases he : q = q2
    · subst he
      have hm : (f (q + 11) 6).toNatClampNeg = m := by rw [h3]; exact nI_clamp (by omega)
      refine ⟨a, m + 1, ?_, h2, ?_, by omega⟩
      · rw [tw_off (by omega), tw_off (by omega), tw_off (by omega), tw_off (by omega), tw_off (by omega), tw_off (by omega)]
        exact h1
      · rw [h3, nI_1]
        simp [tw_up]
    · refine ⟨a, m, ?_, h2, ?_, h4⟩
      · rw [tw_off (by omega), tw_off (by omega), tw_off (by omega), tw_off (by omega), tw_off (by omega), tw_off (by omega)]
        exact h1
      · rw [tw_off (by omega), tw_off (by omega), tw_off (by omega), tw_off (by omega), tw_off (by omega), tw_off (by omega)]
        exact h3
  · exact ⟨a, m, h1, h2, h3, h4⟩
theorem p_send_off {f : tw_S} {q c j : Nat} {k p v w t : Int32} (h : ¬ (q + 11 ≤ c ∧ c ≤ q + 16)) : p_send f q k p v w t c j = f c j := by
  unfold p_send
  split
  · rw [tw_off (by omega), tw_off (by omega), tw_off (by omega), tw_off (by omega), tw_off (by omega), tw_off (by omega)]
  · rfl
theorem p_box_up {f : tw_S} {q c j : Nat} {x : Int32} (hc : c ≠ q + 11) (h : p_box f q) : p_box (tw_up f c j x) q := by
  obtain ⟨a, m, h1, h2, h3, h4⟩ := h
  exact ⟨a, m, by rw [tw_off (by omega)]; exact h1, h2, by rw [tw_off (by omega)]; exact h3, h4⟩
/-- a taken block is released -/
def p_rel (f : tw_S) (q k : Nat) (w : Int32) : tw_S := if f q 7 = 0 then p_fin (if ¬ f (q + 2) k = 0 ∧ f (q + 5) k = w then tw_up f (q + 3) k 0 else f) (f q 0) (nI k) w else if ¬ f (q + 2) k = 0 ∧ f (q + 5) k = w then p_send (tw_up f (q + 3) k 0) (56 - q) 2 (nI k) 0 w (-1) else f
theorem p_rel_off {f : tw_S} {q k c j : Nat} {w : Int32} (hq : q = 17 ∨ q = 39) (h : c ≠ q + 3 ∧ c ≠ 7 ∧ ¬ (67 - q ≤ c ∧ c ≤ 72 - q)) : p_rel f q k w c j = f c j := by
  unfold p_rel
  split
  · unfold p_fin
    rw [if_neg (fun g => h.2.1 g.1)]
    split
    · exact tw_off (by omega)
    · rfl
  · split
    · rw [p_send_off (by omega)]
      exact tw_off (by omega)
    · rfl
theorem p_box_rel {f : tw_S} {q k : Nat} {w : Int32} (hq : q = 17 ∨ q = 39) (h : p_box f (56 - q)) : p_box (p_rel f q k w) (56 - q) := by
  have h2 : p_box (tw_up f (q + 3) k 0) (56 - q) := p_box_up (by omega) h
  unfold p_rel
  split
  · have h3 : p_box (if ¬ f (q + 2) k = 0 ∧ f (q + 5) k = w then tw_up f (q + 3) k 0 else f) (56 - q) := by
      split
      · exact h2
      · exact h
    obtain ⟨a, m, g1, g2, g3, g4⟩ := h3
    refine ⟨a, m, ?_, g2, ?_, g4⟩
    · unfold p_fin
      rw [if_neg (fun u => by omega)]
      exact g1
    · unfold p_fin
      rw [if_neg (fun u => by omega)]
      exact g3
  · split
    · exact p_box_send (by omega) (by omega) h2
    · exact h
/-- the first i places of the stripe s that were taken are released -/
def p_fd (f : tw_S) (q s : Nat) : Nat → tw_S
  | 0 => f
  | i + 1 => if f (q + 18) i = 0 then p_fd f q s i else p_rel (p_fd f q s i) q (s * 4 + i) (f (q + 20) i)
theorem p_fd_off {f : tw_S} {q s c j : Nat} (hq : q = 17 ∨ q = 39) (h : c ≠ q + 3 ∧ c ≠ 7 ∧ ¬ (67 - q ≤ c ∧ c ≤ 72 - q)) : ∀ i, p_fd f q s i c j = f c j
  | 0 => rfl
  | i + 1 => by
    unfold p_fd
    split
    · exact p_fd_off hq h i
    · rw [p_rel_off hq h]
      exact p_fd_off hq h i
theorem p_fd_box {f : tw_S} {q s : Nat} (hq : q = 17 ∨ q = 39) (h : p_box f (56 - q)) : ∀ i, p_box (p_fd f q s i) (56 - q)
  | 0 => h
  | i + 1 => by
    unfold p_fd
    split
    · exact p_fd_box hq h i
    · exact p_box_rel hq (p_fd_box hq h i)
/-- may place k of the stripe s be written? -/
def p_can (f : tw_S) (q s k : Nat) : Int32 := if f (q + 18) k = 0 ∨ f 2 (p_dd s k) = 0 then 0 else 1
def p_wr (f : tw_S) (q : Nat) (a b v k : Int32) : tw_S := tw_up (tw_up (tw_up (tw_up (tw_up f (q + 21) 0 1) (q + 21) 1 a) (q + 21) 2 b) (q + 21) 3 v) (q + 21) 4 k
/-- a block is taken to be destaged, at the place k -/
noncomputable def p_td (f : tw_S) (q k i : Nat) : tw_S := if f (q + 3) k = 0 then p_ite (p_lost (f 5) k) (tw_up f (q + 17) 5 1) (tw_up f (q + 19) i (p_what (f 5) (f 4) k)) else tw_up (tw_up (tw_up f (q + 18) i 1) (q + 19) i (f (q + 4) k)) (q + 20) i (f (q + 5) k)
theorem p_td_off {f : tw_S} {q k i c j : Nat} (h : ¬ (q + 17 ≤ c ∧ c ≤ q + 20)) : p_td f q k i c j = f c j := by
  unfold p_td
  split
  · by_cases hl : p_lost (f 5) k
    · rw [p_ite_t hl]
      exact tw_off (by omega)
    · rw [p_ite_f hl]
      exact tw_off (by omega)
  · rw [tw_off (by omega), tw_off (by omega), tw_off (by omega)]
def p_db (f : tw_S) (q : Nat) (v : Int32) : tw_S := fun c j => if (c = q + 1 ∨ c = q + 2) ∧ j < 4 then 0 else if c = q ∧ j = 3 then v else if c = q ∧ (j = 4 ∨ j = 5 ∨ j = 6) then 0 else f c j
noncomputable def p_bd (f : tw_S) (q s : Nat) : Nat → tw_S
  | 0 => p_db (p_sip (tw_up f q 12 (f q 12 ||| 1 <<< (nI s &&& 31))) q 3 (nI s) 0) (q + 17) (nI s)
  | i + 1 => p_td (p_bd f q s i) q (s * 4 + i) i
def p_beat (f : tw_S) (q : Nat) : tw_S := if f q 15 + 1 < 4 then tw_up (p_sip f q 5 0 0) q 15 (f q 15 + 1) else tw_up (tw_up (p_sip f q 5 0 0) q 15 (f q 15 + 1)) q 7 0
theorem p_sip_off {f : tw_S} {q c j : Nat} {k p w : Int32} (hq : q = 17 ∨ q = 39) (h : ¬ (67 - q ≤ c ∧ c ≤ 72 - q)) : p_sip f q k p w c j = f c j := by
  unfold p_sip
  split
  · rfl
  · exact p_send_off (by omega)
theorem tw_tg_n {ts : List Nat} {df j : Nat} (h : j < 2 ^ 31) : tw_tg 0 ts df (nI j) = ts.getD j df := by
  unfold tw_tg
  rw [nI_toInt h, if_neg (by omega)]
  congr 1
def p_newer (f : tw_S) (q k : Nat) (v w : Int32) : tw_S := if f (q + 7) k = 0 ∨ ¬ w ≤ f (q + 10) k then tw_up (tw_up (tw_up (tw_up f (q + 7) k 1) (q + 8) k 0) (q + 9) k v) (q + 10) k w else f
theorem p_newer_off {f : tw_S} {q k c j : Nat} {v w : Int32} (h : ¬ (q + 7 ≤ c ∧ c ≤ q + 10)) : p_newer f q k v w c j = f c j := by
  unfold p_newer
  split
  · rw [tw_off (by omega), tw_off (by omega), tw_off (by omega), tw_off (by omega)]
  · rfl
def p_dropv (f : tw_S) (q k : Nat) (w : Int32) : tw_S := if ¬ f (q + 7) k = 0 ∧ f (q + 10) k = w then tw_up (tw_up f (q + 7) k 0) (q + 8) k 0 else f
def p_take (f : tw_S) (q a m : Nat) : tw_S := tw_up (tw_up f (q + 11) 5 (nI ((a + 1) % 40))) (q + 11) 6 (nI (m - 1))
def p_rdy (f : tw_S) (q : Nat) : Prop := ¬ f q 6 = 0 ∧ f q 8 = 0 ∧ f (q + 17) 3 = -1 ∧ p_cd (f (q + 3)) 8 = 0 ∧ f q 12 = 0 ∧ f (q + 21) 0 = 0
def p_any (f : tw_S) : Prop := ∃ u, u < 2 ∧ ¬ (p_bit (f 17 11) u ∨ p_bit (f 39 11) u) ∧ ((∃ j, j < 16 ∧ ¬ f 24 (u * 16 + j) = 0) ∨ ∃ j, j < 16 ∧ ¬ f 46 (u * 16 + j) = 0)
def p_sh1 (f : tw_S) : tw_S := tw_up (tw_up f 17 11 (f 17 11 ||| (3 &&& ((f 17 11 ||| f 39 11) ^^^ -1)))) 39 11 (f 39 11 &&& ((f 17 11 &&& f 39 11) ^^^ -1))
def p_sh0 (f : tw_S) : tw_S := tw_up f 17 11 ((f 17 11 ||| (3 &&& ((f 17 11 ||| f 39 11) ^^^ -1))) &&& ((f 17 11 &&& f 39 11) ^^^ -1))
def p_dv (f : tw_S) (q u : Nat) : tw_S := fun c j => if (c = q + 1 ∨ c = q + 2) ∧ u * 16 ≤ j ∧ j < u * 16 + 16 then 0 else f c j
def p_busy (f : tw_S) (q u : Nat) : Prop := ∃ i, i < 4 ∧ (p_bit (f q 12) (u * 4 + i) ∨ f (q + 17) 3 = nI (u * 4 + i) ∨ 0 < p_cnt (fun j => f (q + 3) ((u * 4 + i) * 4 + j)) 4)
def p_move (f : tw_S) (q q2 u : Nat) : tw_S := p_dv (p_dv (tw_up (tw_up f q 11 (f q 11 &&& (1 <<< (nI u &&& 31) ^^^ -1))) q2 11 (f q2 11 ||| 1 <<< (nI u &&& 31))) (q + 1) u) (q2 + 6) u
def p_st (f : tw_S) (q j : Nat) : Int32 := match j with
  | 0 => nI (p_cd (f (q + 3)) 8)
  | 1 => nI (p_cnt (f (q + 7)) 32)
  | 2 => f (q + 11) 6
  | 3 => f q 15
  | 4 => f q 10
  | 5 => tw_nz (f q 6)
  | 6 => tw_nz (f q 7)
  | 7 => tw_nz (f q 8)
  | 8 => tw_nz (f q 9)
  | 9 => f (q + 17) 3
  | 10 => f q 11
  | 11 => f q 12
  | 12 => f q 13
  | _ => f q 14
theorem tw_nz_t {x : Int32} (h : ¬ x = 0) : tw_nz x = 1 := if_neg h
theorem tw_nz_f {x : Int32} (h : x = 0) : tw_nz x = 0 := if_pos h
