/-! Pure words for the reference: going down, steps. -/
def k_late (f : tw_S) (c : Nat) : tw_S := if f 80 c < 0 ∨ ¬ (f 61 45).toNatClampNeg < 20 then f else tw_up (tw_up (tw_up (tw_up (tw_up f 104 (f 61 45).toNatClampNeg (f 80 c)) 105 (f 61 45).toNatClampNeg (f 81 c)) 106 (f 61 45).toNatClampNeg (f 82 c)) 107 (f 61 45).toNatClampNeg (f 83 c)) 61 45 (f 61 45 + 1)
def k_ref (f : tw_S) (x : Int32) (m : Nat) : tw_S := fun q j => if q = 99 ∧ j < m ∧ f 101 j = x ∧ f 99 j = 0 then 2 else f q j
def k_z3 (f : tw_S) (a b e lo n : Nat) : tw_S := fun q j => if (q = a ∨ q = b ∨ q = e) ∧ lo ≤ j ∧ j < lo + n then 0 else f q j
def k_flags (f : tw_S) (c : Nat) : tw_S := tw_up (tw_up (tw_up (tw_up (tw_up (tw_up (tw_up (tw_up (tw_up (tw_up f 66 c 0) 68 c 0) 80 c (-1)) 84 c 0) 87 c (-1)) 94 c 0) 95 c 0) 96 c 0) 69 (2 * c) 0) 69 (2 * c + 1) 0
def k_down (f : tw_S) (c : Nat) : tw_S := k_z3 (k_z3 (k_flags (k_ref (k_late f c) (nI c) (f 61 39).toNatClampNeg) c) 70 73 74 (32 * c) 32) 77 78 79 (8 * c) 8
theorem k_late_39 {f : tw_S} {c : Nat} : k_late f c 61 39 = f 61 39 := by
  unfold k_late
  split
  · rfl
  · rw [tw_off (by omega), tw_off (by omega), tw_off (by omega), tw_off (by omega), tw_off (by omega)]
/-- the reference's memory when the first i blocks of a mirror have been taken over -/
def k_tk (f : tw_S) (c g i : Nat) : tw_S := fun q x => if q = 96 ∧ x = c then nI (g + p_cnt (fun j => f 74 (32 * c + j)) i) else if (32 * c ≤ x ∧ x < 32 * c + i ∧ ¬ f 74 x = 0) ∧ (q = 70 ∨ q = 73) then 1 else if (32 * c ≤ x ∧ x < 32 * c + i ∧ ¬ f 74 x = 0) ∧ q = 71 then f 75 x else if (32 * c ≤ x ∧ x < 32 * c + i ∧ ¬ f 74 x = 0) ∧ q = 72 then nI (g + p_cnt (fun j => f 74 (32 * c + j)) (x - 32 * c + 1)) else if (32 * c ≤ x ∧ x < 32 * c + i ∧ ¬ f 74 x = 0) ∧ q = 74 then 0 else f q x
def k_rk (f : tw_S) (c i : Nat) : tw_S := fun q x => if (8 * c ≤ x ∧ x < 8 * c + i ∧ ¬ f 78 x = 0) ∧ (q = 77 ∨ q = 79) then 1 else if (8 * c ≤ x ∧ x < 8 * c + i ∧ ¬ f 78 x = 0) ∧ q = 78 then 0 else f q x
def k_can (f : tw_S) (c s k : Nat) : Int32 := if f 89 (4 * c + k) = 0 ∨ f 62 (p_dd s k) = 0 then 0 else 1
def k_fin (f : tw_S) (x y w : Int32) (m : Nat) : tw_S := fun q j => if q = 99 ∧ j < m ∧ f 101 j = x ∧ f 99 j = 0 ∧ f 102 j = y ∧ ¬ w < f 103 j then 1 else f q j
def k_rel (f : tw_S) (c b : Nat) (w : Int32) : tw_S := if f 68 c = 0 then k_fin (if ¬ f 70 (32 * c + b) = 0 ∧ ¬ f 73 (32 * c + b) = 0 ∧ f 72 (32 * c + b) = w then tw_up f 73 (32 * c + b) 0 else f) (nI c) (nI b) w (f 61 39).toNatClampNeg else if ¬ f 70 (32 * c + b) = 0 ∧ ¬ f 73 (32 * c + b) = 0 ∧ f 72 (32 * c + b) = w then k_send (tw_up f 73 (32 * c + b) 0) c 2 (nI b) w 0 0 else f
theorem k_send_off {f : tw_S} {c q j : Nat} {s a b v t : Int32} (h : q ≠ 97 ∧ q ≠ 98) : k_send f c s a b v t q j = f q j := by
  unfold k_send
  split
  · rw [tw_off (by omega), tw_off (by omega), tw_off (by omega), tw_off (by omega), tw_off (by omega), tw_off (by omega)]
  · rfl
theorem k_rel_off {f : tw_S} {c b q j : Nat} {w : Int32} (h : q ≠ 73 ∧ q ≠ 97 ∧ q ≠ 98 ∧ q ≠ 99) : k_rel f c b w q j = f q j := by
  unfold k_rel
  split
  · unfold k_fin
    rw [if_neg (by omega)]
    split
    · exact tw_off (by omega)
    · rfl
  · split
    · rw [k_send_off (by omega)]
      exact tw_off (by omega)
    · rfl
/-- messages to the other controller stay in range -/
def k_box (f : tw_S) (c : Nat) : Prop := ∃ m : Nat, f 98 (1 - c) = nI m ∧ m ≤ 40
theorem k_box_send {f : tw_S} {c : Nat} {s a b v t : Int32} (h : k_box f c) : k_box (k_send f c s a b v t) c := by
  obtain ⟨m, h1, h2⟩ := h
  unfold k_send
  split
  · rename_i hc
    have hm : m ≠ 40 := fun g => hc.2 (by rw [h1, g]; rfl)
    exact ⟨m + 1, by rw [h1, nI_1]; simp [tw_up], by omega⟩
  · exact ⟨m, h1, h2⟩
theorem k_box_rel {f : tw_S} {c b : Nat} {w : Int32} (h : k_box f c) : k_box (k_rel f c b w) c := by
  have h2 : k_box (tw_up f 73 (32 * c + b) 0) c := by
    obtain ⟨m, g1, g2⟩ := h
    exact ⟨m, by rw [tw_off (by omega)]; exact g1, g2⟩
  unfold k_rel
  split
  · have h3 : k_box (if ¬ f 70 (32 * c + b) = 0 ∧ ¬ f 73 (32 * c + b) = 0 ∧ f 72 (32 * c + b) = w then tw_up f 73 (32 * c + b) 0 else f) c := by
      split
      · exact h2
      · exact h
    obtain ⟨m, g1, g2⟩ := h3
    refine ⟨m, ?_, g2⟩
    unfold k_fin
    rw [if_neg (by omega)]
    exact g1
  · split
    · exact k_box_send h2
    · exact h
def k_fd (f : tw_S) (c s : Nat) : Nat → tw_S
  | 0 => f
  | i + 1 => if f 89 (4 * c + i) = 0 then k_fd f c s i else k_rel (k_fd f c s i) c (4 * s + i) (f 91 (4 * c + i))
theorem k_fd_off {f : tw_S} {c s q j : Nat} (h : q ≠ 73 ∧ q ≠ 97 ∧ q ≠ 98 ∧ q ≠ 99) : ∀ i, k_fd f c s i q j = f q j
  | 0 => rfl
  | i + 1 => by
    unfold k_fd
    split
    · exact k_fd_off h i
    · rw [k_rel_off h]
      exact k_fd_off h i
theorem k_fd_box {f : tw_S} {c s : Nat} (h : k_box f c) : ∀ i, k_box (k_fd f c s i) c
  | 0 => h
  | i + 1 => by
    unfold k_fd
    split
    · exact k_fd_box h i
    · exact k_box_rel (k_fd_box h i)
/-- a block is taken to be destaged, in the reference -/
noncomputable def k_td (f : tw_S) (c b i : Nat) : tw_S := if f 73 (32 * c + b) = 0 then tw_up (tw_up (tw_up f 89 (4 * c + i) 0) 93 c (p_ite (¬ f 93 c = 0 ∧ ¬ p_lost (f 65) b) 1 0)) 92 c (f 92 c ^^^ p_what (f 65) (f 64) b) else tw_up (tw_up (tw_up (tw_up f 89 (4 * c + i) 1) 90 (4 * c + i) (f 71 (32 * c + b))) 91 (4 * c + i) (f 72 (32 * c + b))) 92 c (f 92 c ^^^ f 71 (32 * c + b))
theorem k_td_off {f : tw_S} {c b i q j : Nat} (h : ¬ (89 ≤ q ∧ q ≤ 93)) : k_td f c b i q j = f q j := by
  unfold k_td
  split
  · rw [tw_off (by omega), tw_off (by omega), tw_off (by omega)]
  · rw [tw_off (by omega), tw_off (by omega), tw_off (by omega), tw_off (by omega)]
def k_bd0 (f : tw_S) (c s : Nat) : tw_S := tw_up (tw_up (tw_up f 87 c (nI s)) 88 c 0) 77 (8 * c + s) 1
noncomputable def k_bd (f : tw_S) (c s : Nat) : Nat → tw_S
  | 0 => tw_up (tw_up (if f 68 c = 0 then k_bd0 f c s else k_send (k_bd0 f c s) c 3 (nI s) 0 0 0) 92 c 0) 93 c 1
  | i + 1 => k_td (k_bd f c s i) c (4 * s + i) i
