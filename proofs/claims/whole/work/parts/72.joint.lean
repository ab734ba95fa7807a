/-! Joint steps of class and reference, part 1: sending, going down, landing, tickets. -/
theorem tw_on {f : tw_S} {q i : Nat} {x : Int32} : tw_up f q i x q i = x := if_pos ⟨rfl, rfl⟩
theorem k_send_off2 {f : tw_S} {c q j m : Nat} {s a b v t : Int32} (hc : c < 2) (hm : f 98 (1 - c) = nI m) (hm2 : m ≤ 40) (h : ¬ (q = 97 ∧ 200 * (1 - c) ≤ j ∧ j < 200 * (1 - c) + 200) ∧ ¬ (q = 98 ∧ j = 1 - c)) : k_send f c s a b v t q j = f q j := by
  unfold k_send
  split
  · rename_i u
    have h40 : m ≠ 40 := fun g => u.2 (by rw [hm, g]; rfl)
    have e : k_at f c = 200 * (1 - c) + 5 * m := by unfold k_at; rw [hm, nI_clamp (by omega)]
    rw [e, tw_off (by omega), tw_off (by omega), tw_off (by omega), tw_off (by omega), tw_off (by omega), tw_off (by omega)]
  · rfl
theorem rI_send {x y : tw_S} {tm c ct qt : Nat} {k p v w t s a b e g : Int32} (hc : c < 2) (hct : ct = 1 - c) (hI : rI x y tm ct qt) (hcut : y 61 38 = x 0 5) (hM : rM tm k p v w t s a b e g) : rI (p_send x qt k p v w t) (k_send y c s a b e g) tm ct qt := by
  subst hct
  obtain ⟨a0, m, h1, h2, h3, h4, h5, h6⟩ := hI
  have em : (x (qt + 11) 6).toNatClampNeg = m := by rw [h4]; exact nI_clamp (by omega)
  have ea : (x (qt + 11) 5).toNatClampNeg = a0 := by rw [h3]; exact nI_clamp (by omega)
  have e40 : y 98 (1 - c) = 40 ↔ m = 40 := by
    rw [h5]
    exact nI_eq (b := 40) (by omega) (by omega)
  by_cases hs : x 0 5 = 0 ∧ m < 40
  · have esl : p_sl x qt = (a0 + m) % 40 := by unfold p_sl; rw [em, ea]
    have eat : k_at y c = 200 * (1 - c) + 5 * m := by unfold k_at; rw [h5, nI_clamp (by omega)]
    rw [p_send, em, if_pos hs, esl, k_send, if_pos ⟨by rw [hcut]; exact hs.1, fun u => by have := e40.mp u; omega⟩, eat, h4, h5, nI_1]
    refine ⟨a0, m + 1, h1, by omega, ?_, tw_on, tw_on, fun i hi => ?_⟩
    · rw [tw_off (by omega), tw_off (by omega), tw_off (by omega), tw_off (by omega), tw_off (by omega), tw_off (by omega)]
      exact h3
    · by_cases him : i = m
      · subst him
        have x1 : ∀ (r : Int32), tw_up (tw_up (tw_up (tw_up (tw_up (tw_up x (qt + 12) ((a0 + i) % 40) k) (qt + 13) ((a0 + i) % 40) p) (qt + 14) ((a0 + i) % 40) v) (qt + 15) ((a0 + i) % 40) w) (qt + 16) ((a0 + i) % 40) t) (qt + 11) 6 r (qt + 12) ((a0 + i) % 40) = k := fun r => by rw [tw_off (by omega), tw_off (by omega), tw_off (by omega), tw_off (by omega), tw_off (by omega), tw_on]
        have x2 : ∀ (r : Int32), tw_up (tw_up (tw_up (tw_up (tw_up (tw_up x (qt + 12) ((a0 + i) % 40) k) (qt + 13) ((a0 + i) % 40) p) (qt + 14) ((a0 + i) % 40) v) (qt + 15) ((a0 + i) % 40) w) (qt + 16) ((a0 + i) % 40) t) (qt + 11) 6 r (qt + 13) ((a0 + i) % 40) = p := fun r => by rw [tw_off (by omega), tw_off (by omega), tw_off (by omega), tw_off (by omega), tw_on]
        have x3 : ∀ (r : Int32), tw_up (tw_up (tw_up (tw_up (tw_up (tw_up x (qt + 12) ((a0 + i) % 40) k) (qt + 13) ((a0 + i) % 40) p) (qt + 14) ((a0 + i) % 40) v) (qt + 15) ((a0 + i) % 40) w) (qt + 16) ((a0 + i) % 40) t) (qt + 11) 6 r (qt + 14) ((a0 + i) % 40) = v := fun r => by rw [tw_off (by omega), tw_off (by omega), tw_off (by omega), tw_on]
        have x4 : ∀ (r : Int32), tw_up (tw_up (tw_up (tw_up (tw_up (tw_up x (qt + 12) ((a0 + i) % 40) k) (qt + 13) ((a0 + i) % 40) p) (qt + 14) ((a0 + i) % 40) v) (qt + 15) ((a0 + i) % 40) w) (qt + 16) ((a0 + i) % 40) t) (qt + 11) 6 r (qt + 15) ((a0 + i) % 40) = w := fun r => by rw [tw_off (by omega), tw_off (by omega), tw_on]
        have x5 : ∀ (r : Int32), tw_up (tw_up (tw_up (tw_up (tw_up (tw_up x (qt + 12) ((a0 + i) % 40) k) (qt + 13) ((a0 + i) % 40) p) (qt + 14) ((a0 + i) % 40) v) (qt + 15) ((a0 + i) % 40) w) (qt + 16) ((a0 + i) % 40) t) (qt + 11) 6 r (qt + 16) ((a0 + i) % 40) = t := fun r => by rw [tw_off (by omega), tw_on]
        rw [x1, x2, x3, x4, x5]
        generalize 200 * (1 - c) + 5 * i = z
        have y1 : ∀ (r : Int32), tw_up (tw_up (tw_up (tw_up (tw_up (tw_up y 97 z s) 97 (z + 1) a) 97 (z + 2) b) 97 (z + 3) e) 97 (z + 4) g) 98 (1 - c) r 97 z = s := fun r => by rw [tw_off (by omega), tw_off (by omega), tw_off (by omega), tw_off (by omega), tw_off (by omega), tw_on]
        have y2 : ∀ (r : Int32), tw_up (tw_up (tw_up (tw_up (tw_up (tw_up y 97 z s) 97 (z + 1) a) 97 (z + 2) b) 97 (z + 3) e) 97 (z + 4) g) 98 (1 - c) r 97 (z + 1) = a := fun r => by rw [tw_off (by omega), tw_off (by omega), tw_off (by omega), tw_off (by omega), tw_on]
        have y3 : ∀ (r : Int32), tw_up (tw_up (tw_up (tw_up (tw_up (tw_up y 97 z s) 97 (z + 1) a) 97 (z + 2) b) 97 (z + 3) e) 97 (z + 4) g) 98 (1 - c) r 97 (z + 2) = b := fun r => by rw [tw_off (by omega), tw_off (by omega), tw_off (by omega), tw_on]
        have y4 : ∀ (r : Int32), tw_up (tw_up (tw_up (tw_up (tw_up (tw_up y 97 z s) 97 (z + 1) a) 97 (z + 2) b) 97 (z + 3) e) 97 (z + 4) g) 98 (1 - c) r 97 (z + 3) = e := fun r => by rw [tw_off (by omega), tw_off (by omega), tw_on]
        have y5 : ∀ (r : Int32), tw_up (tw_up (tw_up (tw_up (tw_up (tw_up y 97 z s) 97 (z + 1) a) 97 (z + 2) b) 97 (z + 3) e) 97 (z + 4) g) 98 (1 - c) r 97 (z + 4) = g := fun r => by rw [tw_off (by omega), tw_on]
        rw [y1, y2, y3, y4, y5]
        exact hM
      · have xo : ∀ (r : Int32) (z : Nat), qt + 12 ≤ z → tw_up (tw_up (tw_up (tw_up (tw_up (tw_up x (qt + 12) ((a0 + m) % 40) k) (qt + 13) ((a0 + m) % 40) p) (qt + 14) ((a0 + m) % 40) v) (qt + 15) ((a0 + m) % 40) w) (qt + 16) ((a0 + m) % 40) t) (qt + 11) 6 r z ((a0 + i) % 40) = x z ((a0 + i) % 40) := fun r z hz => by rw [tw_off (by omega), tw_off (by omega), tw_off (by omega), tw_off (by omega), tw_off (by omega), tw_off (by omega)]
        have yo : ∀ (r : Int32) (z : Nat), z < 200 * (1 - c) + 5 * m → tw_up (tw_up (tw_up (tw_up (tw_up (tw_up y 97 (200 * (1 - c) + 5 * m) s) 97 (200 * (1 - c) + 5 * m + 1) a) 97 (200 * (1 - c) + 5 * m + 2) b) 97 (200 * (1 - c) + 5 * m + 3) e) 97 (200 * (1 - c) + 5 * m + 4) g) 98 (1 - c) r 97 z = y 97 z := fun r z hz => by rw [tw_off (by omega), tw_off (by omega), tw_off (by omega), tw_off (by omega), tw_off (by omega), tw_off (by omega)]
        rw [xo _ _ (by omega), xo _ _ (by omega), xo _ _ (by omega), xo _ _ (by omega), xo _ _ (by omega), yo _ _ (by omega), yo _ _ (by omega), yo _ _ (by omega), yo _ _ (by omega), yo _ _ (by omega)]
        exact h6 i (by omega)
  · rw [p_send, em, if_neg hs, k_send, if_neg (fun u => hs ⟨by rw [← hcut]; exact u.1, by rcases Nat.lt_or_ge m 40 with h | h; exact h; exact absurd (e40.mpr (by omega)) u.2⟩)]
    exact ⟨a0, m, h1, h2, h3, h4, h5, h6⟩
/-! going down -/
theorem p_forget_off {f : tw_S} {q a b : Nat} (h : ¬ (a = q ∧ 6 ≤ b ∧ b ≤ 16 ∧ b ≠ 10) ∧ ¬ ((a = q + 2 ∨ a = q + 3 ∨ a = q + 7 ∨ a = q + 8) ∧ b < 32) ∧ ¬ (a = q + 17 ∧ b = 3) ∧ ¬ (a = q + 21 ∧ b = 0)) : p_forget f q a b = f a b := by
  unfold p_forget
  rw [tw_off (by omega), tw_off (by omega), p_drop, if_neg (by omega), p_drop, if_neg (by omega)]
  rw [tw_off (by omega), tw_off (by omega), tw_off (by omega), tw_off (by omega), tw_off (by omega), tw_off (by omega), tw_off (by omega), tw_off (by omega), tw_off (by omega), tw_off (by omega)]
theorem p_forget_z {f : tw_S} {q a b : Nat} (h : (a = q ∧ 6 ≤ b ∧ b ≤ 16 ∧ b ≠ 10) ∨ ((a = q + 2 ∨ a = q + 3 ∨ a = q + 7 ∨ a = q + 8) ∧ b < 32) ∨ (a = q + 21 ∧ b = 0)) : p_forget f q a b = 0 := by
  unfold p_forget
  rcases h with ⟨rfl, h1, h2, h3⟩ | ⟨h1, h2⟩ | ⟨rfl, rfl⟩
  · rw [tw_off (by omega), tw_off (by omega), p_drop, if_neg (by omega), p_drop, if_neg (by omega)]
    rcases (show b = 6 ∨ b = 7 ∨ b = 8 ∨ b = 9 ∨ b = 11 ∨ b = 12 ∨ b = 13 ∨ b = 14 ∨ b = 15 ∨ b = 16 by omega) with rfl | rfl | rfl | rfl | rfl | rfl | rfl | rfl | rfl | rfl <;> simp [tw_up]
  · rw [tw_off (by omega), tw_off (by omega), p_drop]
    split
    · rfl
    · rw [p_drop, if_pos (by omega)]
  · exact tw_on
theorem p_forget_s {f : tw_S} {q : Nat} : p_forget f q (q + 17) 3 = -1 := by
  unfold p_forget
  rw [tw_off (by omega), tw_on]
theorem p_late_off {f : tw_S} {q a b : Nat} (h : ¬ (13 ≤ a ∧ a ≤ 16) ∧ ¬ (a = 12 ∧ b = 4)) : p_late f q a b = f a b := by
  unfold p_late
  split
  · rfl
  · rw [tw_off (by omega), tw_off (by omega), tw_off (by omega), tw_off (by omega), tw_off (by omega)]
theorem p_down_off {f : tw_S} {q a b : Nat} (h : ¬ (a = q ∧ 6 ≤ b ∧ b ≤ 16 ∧ b ≠ 10) ∧ ¬ ((a = q + 2 ∨ a = q + 3 ∨ a = q + 7 ∨ a = q + 8) ∧ b < 32) ∧ ¬ (a = q + 17 ∧ b = 3) ∧ ¬ (a = q + 21 ∧ b = 0) ∧ a ≠ 7 ∧ ¬ (13 ≤ a ∧ a ≤ 16) ∧ ¬ (a = 12 ∧ b = 4)) : p_down f q a b = f a b := by
  unfold p_down
  rw [p_forget_off (by omega), p_ref, if_neg (fun u => h.2.2.2.2.1 u.1), p_late_off (by omega)]
theorem k_late_off {f : tw_S} {c a b : Nat} (h : ¬ (104 ≤ a ∧ a ≤ 107) ∧ ¬ (a = 61 ∧ b = 45)) : k_late f c a b = f a b := by
  unfold k_late
  split
  · rfl
  · rw [tw_off (by omega), tw_off (by omega), tw_off (by omega), tw_off (by omega), tw_off (by omega)]
theorem k_down_off {f : tw_S} {c a b : Nat} (h : ¬ ((a = 66 ∨ a = 68 ∨ a = 80 ∨ a = 84 ∨ a = 87 ∨ 94 ≤ a ∧ a ≤ 96) ∧ b = c) ∧ ¬ (a = 69 ∧ 2 * c ≤ b ∧ b < 2 * c + 2) ∧ ¬ ((a = 70 ∨ a = 73 ∨ a = 74) ∧ 32 * c ≤ b ∧ b < 32 * c + 32) ∧ ¬ (77 ≤ a ∧ a ≤ 79 ∧ 8 * c ≤ b ∧ b < 8 * c + 8) ∧ a ≠ 99 ∧ ¬ (104 ≤ a ∧ a ≤ 107) ∧ ¬ (a = 61 ∧ b = 45)) : k_down f c a b = f a b := by
  unfold k_down
  rw [k_z3, if_neg (by omega), k_z3, if_neg (by omega)]
  unfold k_flags
  rw [tw_off (by omega), tw_off (by omega), tw_off (by omega), tw_off (by omega), tw_off (by omega), tw_off (by omega), tw_off (by omega), tw_off (by omega), tw_off (by omega), tw_off (by omega), k_ref, if_neg (by omega), k_late_off (by omega)]
theorem k_flags_z {f : tw_S} {c a b : Nat} (h : ((a = 66 ∨ a = 68 ∨ a = 84 ∨ a = 94 ∨ a = 95 ∨ a = 96) ∧ b = c) ∨ (a = 69 ∧ (b = 2 * c ∨ b = 2 * c + 1))) : k_flags f c a b = 0 := by
  unfold k_flags
  rcases h with ⟨rfl | rfl | rfl | rfl | rfl | rfl, rfl⟩ | ⟨rfl, rfl | rfl⟩ <;> simp [tw_up]
theorem k_down_z {f : tw_S} {c a b : Nat} (hc : c < 2) (h : ((a = 66 ∨ a = 68 ∨ a = 84 ∨ 94 ≤ a ∧ a ≤ 96) ∧ b = c) ∨ (a = 69 ∧ 2 * c ≤ b ∧ b < 2 * c + 2) ∨ ((a = 70 ∨ a = 73 ∨ a = 74) ∧ 32 * c ≤ b ∧ b < 32 * c + 32) ∨ (77 ≤ a ∧ a ≤ 79 ∧ 8 * c ≤ b ∧ b < 8 * c + 8)) : k_down f c a b = 0 := by
  unfold k_down
  rw [k_z3]
  split
  · rfl
  · rw [k_z3]
    split
    · rfl
    · exact k_flags_z (by omega)
theorem k_down_m {f : tw_S} {c a : Nat} (h : a = 80 ∨ a = 87) : k_down f c a c = -1 := by
  unfold k_down
  rw [k_z3, if_neg (by omega), k_z3, if_neg (by omega)]
  unfold k_flags
  rcases h with rfl | rfl <;> simp [tw_up]
theorem k_down_t {f : tw_S} {c t : Nat} : k_down f c 99 t = if t < (f 61 39).toNatClampNeg ∧ f 101 t = nI c ∧ f 99 t = 0 then 2 else f 99 t := by
  unfold k_down
  rw [k_z3, if_neg (by omega), k_z3, if_neg (by omega)]
  unfold k_flags
  rw [tw_off (by omega), tw_off (by omega), tw_off (by omega), tw_off (by omega), tw_off (by omega), tw_off (by omega), tw_off (by omega), tw_off (by omega), tw_off (by omega), tw_off (by omega), k_ref, k_late_off (by omega), k_late_off (by omega)]
  simp
theorem p_down_t {f : tw_S} {q t : Nat} (hq : q = 17 ∨ q = 39) : p_down f q 7 t = if t < (f 6 5).toNatClampNeg ∧ f 7 t = 0 ∧ f 9 t = f q 0 then 2 else f 7 t := by
  unfold p_down
  rw [p_forget_off (by omega), p_ref, p_late_off (by omega), p_late_off (by omega), p_late_off (by omega)]
  simp
theorem p_down_l {f : tw_S} {q a b : Nat} (hq : q = 17 ∨ q = 39) (h : 12 ≤ a ∧ a ≤ 16) : p_down f q a b = p_late f (q + 21) a b := by
  unfold p_down
  rw [p_forget_off (by omega), p_ref, if_neg (by omega)]
theorem k_down_l {f : tw_S} {c a b : Nat} (h : (104 ≤ a ∧ a ≤ 107) ∨ (a = 61 ∧ b = 45)) : k_down f c a b = k_late f c a b := by
  unfold k_down
  rw [k_z3, if_neg (by omega), k_z3, if_neg (by omega)]
  unfold k_flags
  rw [tw_off (by omega), tw_off (by omega), tw_off (by omega), tw_off (by omega), tw_off (by omega), tw_off (by omega), tw_off (by omega), tw_off (by omega), tw_off (by omega), tw_off (by omega), k_ref, if_neg (by omega)]
theorem rL_late {x y : tw_S} {c q : Nat} (hc : c < 2) (hq : q = 17 + 22 * c) (hL : rL x y) (hW : rW x y c q) : rL (p_late x (q + 21)) (k_late y c) := by
  obtain ⟨m, h1, h2, h3, h4⟩ := hL
  have em : (x 12 4).toNatClampNeg = m := by rw [h2]; exact nI_clamp (by omega)
  have ek : (y 61 45).toNatClampNeg = m := by rw [h3]; exact nI_clamp (by omega)
  rcases hW with ⟨w1, w2⟩ | ⟨w1, i, s, i1, s1, w3, w4, w5, w6, w7, w8⟩
  · rw [p_late, if_pos (Or.inl w1), k_late, if_pos (Or.inl (by rw [w2]; decide))]
    exact ⟨m, h1, h2, h3, h4⟩
  · by_cases hm : m < 20
    · rw [p_late, if_neg (fun u => u.elim w1 (fun v => v (by omega))), k_late, if_neg (fun u => u.elim (fun v => absurd (nI_ge0 (n := i) (by omega)) (by rw [← w5]; exact Int32.not_le.mpr v)) (fun v => v (by omega))), em, ek, h2, h3, nI_1]
      refine ⟨m + 1, by omega, tw_on, tw_on, fun k hk => ?_⟩
      by_cases hkm : k = m
      · subst hkm
        have a1 : ∀ r s t u v : Int32, tw_up (tw_up (tw_up (tw_up (tw_up x 13 k r) 14 k s) 15 k t) 16 k u) 12 4 v 13 k = r := fun r s t u v => by rw [tw_off (by omega), tw_off (by omega), tw_off (by omega), tw_off (by omega), tw_on]
        have a2 : ∀ r s t u v : Int32, tw_up (tw_up (tw_up (tw_up (tw_up x 13 k r) 14 k s) 15 k t) 16 k u) 12 4 v 14 k = s := fun r s t u v => by rw [tw_off (by omega), tw_off (by omega), tw_off (by omega), tw_on]
        have a3 : ∀ r s t u v : Int32, tw_up (tw_up (tw_up (tw_up (tw_up x 13 k r) 14 k s) 15 k t) 16 k u) 12 4 v 15 k = t := fun r s t u v => by rw [tw_off (by omega), tw_off (by omega), tw_on]
        have a4 : ∀ r s t u v : Int32, tw_up (tw_up (tw_up (tw_up (tw_up x 13 k r) 14 k s) 15 k t) 16 k u) 12 4 v 16 k = u := fun r s t u v => by rw [tw_off (by omega), tw_on]
        have b1 : ∀ r s t u v : Int32, tw_up (tw_up (tw_up (tw_up (tw_up y 104 k r) 105 k s) 106 k t) 107 k u) 61 45 v 104 k = r := fun r s t u v => by rw [tw_off (by omega), tw_off (by omega), tw_off (by omega), tw_off (by omega), tw_on]
        have b2 : ∀ r s t u v : Int32, tw_up (tw_up (tw_up (tw_up (tw_up y 104 k r) 105 k s) 106 k t) 107 k u) 61 45 v 105 k = s := fun r s t u v => by rw [tw_off (by omega), tw_off (by omega), tw_off (by omega), tw_on]
        have b3 : ∀ r s t u v : Int32, tw_up (tw_up (tw_up (tw_up (tw_up y 104 k r) 105 k s) 106 k t) 107 k u) 61 45 v 106 k = t := fun r s t u v => by rw [tw_off (by omega), tw_off (by omega), tw_on]
        have b4 : ∀ r s t u v : Int32, tw_up (tw_up (tw_up (tw_up (tw_up y 104 k r) 105 k s) 106 k t) 107 k u) 61 45 v 107 k = u := fun r s t u v => by rw [tw_off (by omega), tw_on]
        rw [a1, a2, a3, a4, b1, b2, b3, b4, w3, w4, w5, w6, w7, w8]
        exact ⟨rfl, rfl, rfl, rfl, ⟨i, i1, rfl⟩, ⟨s, s1, rfl⟩⟩
      · have ao : ∀ (r s t u v : Int32) (z : Nat), 13 ≤ z → tw_up (tw_up (tw_up (tw_up (tw_up x 13 m r) 14 m s) 15 m t) 16 m u) 12 4 v z k = x z k := fun r s t u v z hz => by rw [tw_off (by omega), tw_off (by omega), tw_off (by omega), tw_off (by omega), tw_off (by omega)]
        have bo : ∀ (r s t u v : Int32) (z : Nat), 104 ≤ z → tw_up (tw_up (tw_up (tw_up (tw_up y 104 m r) 105 m s) 106 m t) 107 m u) 61 45 v z k = y z k := fun r s t u v z hz => by rw [tw_off (by omega), tw_off (by omega), tw_off (by omega), tw_off (by omega), tw_off (by omega)]
        rw [ao _ _ _ _ _ _ (by omega), ao _ _ _ _ _ _ (by omega), ao _ _ _ _ _ _ (by omega), ao _ _ _ _ _ _ (by omega), bo _ _ _ _ _ _ (by omega), bo _ _ _ _ _ _ (by omega), bo _ _ _ _ _ _ (by omega), bo _ _ _ _ _ _ (by omega)]
        exact h4 k (by omega)
    · rw [p_late, if_pos (Or.inr (by omega)), k_late, if_pos (Or.inr (by omega))]
      exact ⟨m, h1, h2, h3, h4⟩
theorem rR_down {x y : tw_S} {tm c q : Nat} (hc : c < 2) (hq : q = 17 + 22 * c) (h : rR x y tm) : rR (p_down x q) (k_down y c) tm := by
  obtain ⟨hD, hL, hT, hC, hF, hE, hI, hS, hW⟩ := h
  have hq2 : q = 17 ∨ q = 39 := by omega
  refine ⟨rD_ext (fun a b u => p_down_off (by omega)) (fun a b u => k_down_off (by omega)) hD, ?_, ?_, ?_, ?_, ?_, ?_, ?_, ?_⟩
  · exact rL_ext (fun a b u => p_down_l hq2 u) (fun a b u => k_down_l u) (rL_late hc hq hL (by rw [hq]; exact hW c hc))
  · obtain ⟨t1, t2, t3, t4⟩ := hT
    have hn : x q 0 = nI c := by rw [hq]; exact (hF c hc).1
    refine ⟨t1, by rw [p_down_off (by omega)]; exact t2, by rw [k_down_off (by omega)]; exact t3, fun t ht => ?_⟩
    obtain ⟨u1, u2, u3⟩ := t4 t ht
    rw [p_down_t hq2, k_down_t, t2, t3, nI_clamp (by omega), hn, p_down_off (by omega), p_down_off (by omega), p_down_off (by omega), p_down_off (by omega), k_down_off (by omega), k_down_off (by omega), k_down_off (by omega), k_down_off (by omega), u1]
    by_cases h7 : x 7 t = 0
    · obtain ⟨v1, v2, v3⟩ := u3 h7
      rw [v1]
      by_cases h9 : x 9 t = nI c
      · rw [if_pos ⟨ht, h9, h7⟩, if_pos ⟨ht, h7, h9⟩]
        exact ⟨rfl, u2, fun u => absurd u (by decide)⟩
      · rw [if_neg (fun u => h9 u.2.1), if_neg (fun u => h9 u.2.2)]
        exact ⟨rfl, u2, fun _ => ⟨rfl, v2, v3⟩⟩
    · rw [if_neg (fun u => h7 u.2.2), if_neg (fun u => h7 u.2.1)]
      exact ⟨rfl, u2, fun u => absurd u h7⟩
  · rw [p_down_off (by omega), k_down_off (by omega)]
    exact hC
  · intro c2 hc2
    by_cases he : c2 = c
    · subst he
      obtain ⟨f1, f2, f3, f4, f5, f6, f7, f8, f9, f10, f11, f12, f13, f14⟩ := hF c2 hc2
      rw [← hq] at f1 f6 ⊢
      have z : ∀ n, n ≤ 8 → ∀ g : Nat → Int32, (∀ s, s < n → g s = 0) → 0 = p_bits g n := fun n hn g hg => ((b_zero hn).mpr hg).symm
      unfold rF
      rw [p_down_off (a := q) (b := 0) (by omega), p_down_off (a := q) (b := 10) (by omega), k_down_off (a := 67) (by omega)]
      have pz : ∀ b, 6 ≤ b ∧ b ≤ 16 ∧ b ≠ 10 → p_down x q q b = 0 := fun b hb => p_forget_z (by omega)
      have kz : ∀ a, (a = 66 ∨ a = 68 ∨ a = 84 ∨ 94 ≤ a ∧ a ≤ 96) → k_down y c2 a c2 = 0 := fun a ha => k_down_z hc2 (by omega)
      rw [pz 6 (by omega), pz 7 (by omega), pz 8 (by omega), pz 9 (by omega), pz 11 (by omega), pz 12 (by omega), pz 13 (by omega), pz 14 (by omega), pz 15 (by omega), pz 16 (by omega), kz 66 (by omega), kz 68 (by omega), kz 84 (by omega), kz 94 (by omega), kz 95 (by omega), kz 96 (by omega)]
      refine ⟨f1, rfl, rfl, rfl, rfl, f6, z 2 (by omega) _ (fun s hs => k_down_z hc2 (by omega)), z 8 (by omega) _ (fun s hs => k_down_z hc2 (by omega)), z 8 (by omega) _ (fun s hs => k_down_z hc2 (by omega)), z 8 (by omega) _ (fun s hs => k_down_z hc2 (by omega)), rfl, fun u => absurd rfl u, rfl, fun u => absurd rfl u⟩
    · exact rF_ext (fun b => p_down_off (by omega)) (fun a b u => k_down_off (by omega)) (hF c2 hc2)
  · intro c2 hc2
    by_cases he : c2 = c
    · subst he
      rw [← hq]
      intro j hj
      have pz : ∀ a, (a = q + 2 ∨ a = q + 3 ∨ a = q + 7) → p_down x q a j = 0 := fun a ha => p_forget_z (by omega)
      have kz : ∀ a, (a = 70 ∨ a = 73 ∨ a = 74) → k_down y c2 a (32 * c2 + j) = 0 := fun a ha => k_down_z hc2 (by omega)
      rw [pz (q + 2) (by omega), pz (q + 3) (by omega), pz (q + 7) (by omega), kz 70 (by omega), kz 73 (by omega), kz 74 (by omega)]
      exact ⟨rfl, rfl, fun u => absurd rfl u, fun u => absurd rfl u, rfl, fun u => absurd rfl u⟩
    · exact rE_ext (fun a b u => p_down_off (by omega)) (fun a b u => k_down_off (by omega)) (hE c2 hc2)
  · intro c2 hc2
    exact rI_ext (Nat.le_refl _) (fun a b u => p_down_off (by omega)) (fun a b u => k_down_off (by omega)) (hI c2 hc2)
  · intro c2 hc2
    by_cases he : c2 = c
    · subst he
      rw [← hq]
      have e1 : p_down x q (q + 17) 3 = -1 := p_forget_s
      exact ⟨by rw [e1]; exact k_down_m (Or.inr rfl), Or.inl e1⟩
    · exact rS_ext (fun a b u => p_down_off (by omega)) (fun b _ u => by rw [p_down_off (by omega)]; exact u) (fun a b u => k_down_off (by omega)) (hS c2 hc2)
  · intro c2 hc2
    by_cases he : c2 = c
    · subst he
      rw [← hq]
      exact Or.inl ⟨p_forget_z (by omega), k_down_m (Or.inl rfl)⟩
    · exact rW_ext (fun b => p_down_off (by omega)) (fun a u => k_down_off (by omega)) (hW c2 hc2)
theorem rD_put {x y : tw_S} {i s : Nat} {v : Int32} (h : rD x y) : rD (tw_up (tw_up x 4 (i * 8 + s) v) 5 (i * 8 + s) 0) (k_put y i s v) := by
  obtain ⟨h1, h2, h3, h4⟩ := h
  unfold k_put
  refine ⟨?_, ?_, ?_, ?_⟩ <;> funext j <;> simp only [tw_up, Nat.reduceEqDiff, false_and, if_false, true_and, h1, h2, h3, h4]
