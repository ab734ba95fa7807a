/-! The calls, part 4: pair, moveOwner. -/
theorem nI_m1 {s : Nat} (hs : s < 2 ^ 31) : ¬ nI s = -1 := fun h => absurd (nI_ge0 hs) (by rw [h]; decide)
theorem r_stripe {x y : tw_S} {c q : Nat} (hS : rS x y c q) : (x (q + 17) 3 = -1 ↔ ¬ 0 ≤ y 87 c) ∧ (x (q + 17) 3 = -1 ↔ y 87 c < 0) := by
  obtain ⟨s1, s2⟩ := hS
  rw [s1]
  rcases s2 with s2 | ⟨s, a1, a2, _⟩
  · rw [s2]
    exact ⟨⟨fun _ => by decide, fun _ => rfl⟩, ⟨fun _ => by decide, fun _ => rfl⟩⟩
  · rw [a2]
    exact ⟨⟨fun u => absurd u (nI_m1 (by omega)), fun u => absurd (nI_ge0 (by omega)) u⟩, ⟨fun u => absurd u (nI_m1 (by omega)), fun u => absurd (nI_ge0 (n := s) (by omega)) (Int32.not_le.mpr u)⟩⟩
theorem r_way {x y : tw_S} {c q : Nat} (hW : rW x y c q) : (x (q + 21) 0 = 0 ↔ ¬ 0 ≤ y 80 c) ∧ (x (q + 21) 0 = 0 ↔ y 80 c < 0) := by
  rcases hW with ⟨w1, w2⟩ | ⟨w1, i, s, i1, s1, w3, w4, w5, w6, w7, w8⟩
  · rw [w1, w2]
    exact ⟨⟨fun _ => by decide, fun _ => rfl⟩, ⟨fun _ => by decide, fun _ => rfl⟩⟩
  · rw [w5]
    exact ⟨⟨fun u => absurd u w1, fun u => absurd (nI_ge0 (by omega)) u⟩, ⟨fun u => absurd u w1, fun u => absurd (nI_ge0 (n := i) (by omega)) (Int32.not_le.mpr u)⟩⟩
theorem r_dirty {x y : tw_S} {c q : Nat} (hE : rE x y c q) : p_cd (fun j => y 73 (32 * c + j)) 8 = p_cd (x (q + 3)) 8 := p_cd_congr 8 (fun j hj => by simp only [(hE j (by omega)).2.1])
theorem r_quiet {x y : tw_S} {c q : Nat} (hF : rF x y c q) (hE : rE x y c q) (hS : rS x y c q) (hW : rW x y c q) : p_rdy x q ↔ k_quiet y c := by
  obtain ⟨f1, f2, f3, f4, f5, f6, f7, f8, f9, f10, f11, f12, f13, f14⟩ := hF
  unfold p_rdy k_quiet
  rw [f2, f4, ← (r_stripe hS).1, r_dirty hE, ← (r_way hW).1, f8, b_zero (by omega)]
  have e : (∀ s, s < 8 → y 77 (8 * c + s) = 0) ↔ ¬ p_ft (fun s => y 77 (8 * c + s)) 8 0 < 8 := by
    have := p_ft_none (g := fun s => y 77 (8 * c + s)) 8 0
    rw [Nat.zero_add] at this
    rw [this]
    exact ⟨fun u j _ hj => u j hj, fun u j hj => u j (by omega) hj⟩
  rw [e]
theorem r_own {x y : tw_S} {c q u : Nat} (hF : rF x y c q) (hu : u < 2) : p_bit (x q 11) u ↔ ¬ y 69 (2 * c + u) = 0 := by
  rw [hF.2.2.2.2.2.2.1, b_bit (by omega) hu]
theorem r_any {x y : tw_S} (h0 : rF x y 0 17) (h1 : rF x y 1 39) (e0 : rE x y 0 17) (e1 : rE x y 1 39) : p_any x ↔ k_any y 32 := by
  constructor
  · rintro ⟨u, hu, hn, hj⟩
    rw [r_own h0 hu, r_own h1 hu] at hn
    have n0 : y 69 u = 0 := Classical.byContradiction (fun w => hn (Or.inl (by rw [show 2 * 0 + u = u by omega]; exact w)))
    have n1 : y 69 (2 + u) = 0 := Classical.byContradiction (fun w => hn (Or.inr (by rw [show 2 * 1 + u = 2 + u by omega]; exact w)))
    rcases hj with ⟨j, hj, hz⟩ | ⟨j, hj, hz⟩
    · refine ⟨u * 16 + j, by omega, by rw [show (u * 16 + j) / 16 = u by omega]; exact n0, by rw [show (u * 16 + j) / 16 = u by omega]; exact n1, Or.inl ?_⟩
      have := (e0 (u * 16 + j) (by omega)).2.2.2.2.1
      rw [show 32 * 0 + (u * 16 + j) = u * 16 + j by omega] at this
      rw [this]
      exact hz
    · refine ⟨u * 16 + j, by omega, by rw [show (u * 16 + j) / 16 = u by omega]; exact n0, by rw [show (u * 16 + j) / 16 = u by omega]; exact n1, Or.inr ?_⟩
      have := (e1 (u * 16 + j) (by omega)).2.2.2.2.1
      rw [show 32 * 1 + (u * 16 + j) = 32 + (u * 16 + j) by omega] at this
      rw [this]
      exact hz
  · rintro ⟨b, hb, n0, n1, hz⟩
    refine ⟨b / 16, by omega, ?_, ?_⟩
    · rw [r_own h0 (by omega), r_own h1 (by omega), show 2 * 0 + b / 16 = b / 16 by omega, show 2 * 1 + b / 16 = 2 + b / 16 by omega]
      exact fun w => w.elim (fun v => v n0) (fun v => v n1)
    · rcases hz with hz | hz
      · refine Or.inl ⟨b % 16, by omega, ?_⟩
        have := (e0 b (by omega)).2.2.2.2.1
        rw [show 32 * 0 + b = b by omega] at this
        rw [show b / 16 * 16 + b % 16 = b by omega, ← this]
        exact hz
      · refine Or.inr ⟨b % 16, by omega, ?_⟩
        have := (e1 b (by omega)).2.2.2.2.1
        rw [show 32 * 1 + b = 32 + b by omega] at this
        rw [show b / 16 * 16 + b % 16 = b by omega, ← this]
        exact hz
theorem p_begin_off {f : tw_S} {q a b : Nat} {x : Int32} (h : ¬ (a = q ∧ (b = 7 ∨ b = 10 ∨ b = 13 ∨ b = 15)) ∧ ¬ ((a = q + 2 ∨ a = q + 3 ∨ a = q + 7 ∨ a = q + 8) ∧ b < 32) ∧ ¬ (a = q + 11 ∧ b = 6)) : p_begin f q x a b = f a b := by
  unfold p_begin
  rw [tw_off (by omega), tw_off (by omega), tw_off (by omega), p_drop, if_neg (by omega), p_drop, if_neg (by omega), tw_off (by omega), tw_off (by omega)]
theorem p_begin_z {f : tw_S} {q a b : Nat} {x : Int32} (h : (a = q ∧ (b = 13 ∨ b = 15)) ∨ ((a = q + 2 ∨ a = q + 3 ∨ a = q + 7 ∨ a = q + 8) ∧ b < 32) ∨ (a = q + 11 ∧ b = 6)) : p_begin f q x a b = 0 := by
  unfold p_begin
  rcases h with ⟨rfl, rfl | rfl⟩ | ⟨h1, h2⟩ | ⟨rfl, rfl⟩
  · rw [tw_off (by omega), tw_on]
  · rw [tw_on]
  · rw [tw_off (by omega), tw_off (by omega), tw_off (by omega), p_drop]
    split
    · rfl
    · rw [p_drop, if_pos (by omega)]
  · rw [tw_off (by omega), tw_off (by omega), tw_on]
theorem p_begin_7 {f : tw_S} {q : Nat} {x : Int32} : p_begin f q x q 7 = 1 := by
  unfold p_begin
  rw [tw_off (by omega), tw_off (by omega), tw_off (by omega), p_drop, if_neg (by omega), p_drop, if_neg (by omega), tw_off (by omega), tw_on]
theorem p_begin_10 {f : tw_S} {q : Nat} {x : Int32} : p_begin f q x q 10 = x := by
  unfold p_begin
  rw [tw_off (by omega), tw_off (by omega), tw_off (by omega), p_drop, if_neg (by omega), p_drop, if_neg (by omega), tw_on]
/-- one controller begins to be paired -/
theorem rR_begin {x y : tw_S} {tm c q : Nat} {k : Int32} (hc : c < 2) (hq : q = 17 + 22 * c) (hk : y 67 c = k) (hst : x (q + 17) 3 = -1) (hd : ∀ j, j < 32 → x (q + 3) j = 0) (h : rR (tw_up x q 10 k) y tm) : rR (p_begin x q k) (k_bp y c 32 8) tm := by
  obtain ⟨hD, hL, hT, hC, hF, hE, hI, hS, hW⟩ := h
  have bo : ∀ a b, ¬ ((a = 68 ∨ a = 95 ∨ a = 98) ∧ b = c) ∧ ¬ ((a = 70 ∨ a = 74) ∧ 32 * c ≤ b ∧ b < 32 * c + 32) ∧ ¬ (a = 78 ∧ 8 * c ≤ b ∧ b < 8 * c + 8) → k_bp y c 32 8 a b = y a b := fun a b u => by rw [k_bp, if_neg (by omega), if_neg (by omega), if_neg (by omega), if_neg (by omega)]
  have po : ∀ a b, ¬ (a = q ∧ (b = 7 ∨ b = 13 ∨ b = 15)) ∧ ¬ ((a = q + 2 ∨ a = q + 3 ∨ a = q + 7 ∨ a = q + 8) ∧ b < 32) ∧ ¬ (a = q + 11 ∧ b = 6) → p_begin x q k a b = tw_up x q 10 k a b := fun a b u => by
    by_cases h10 : a = q ∧ b = 10
    · rw [h10.1, h10.2, p_begin_10, tw_on]
    · rw [p_begin_off (by omega), tw_off h10]
  refine ⟨rD_ext (fun a b u => po a b (by omega)) (fun a b u => bo a b (by omega)) hD, rL_ext (fun a b u => po a b (by omega)) (fun a b u => bo a b (by omega)) hL, rT_ext (fun a b u => po a b (by omega)) (fun a b u => bo a b (by omega)) hT, by rw [po _ _ (by omega), bo _ _ (by omega)]; exact hC, ?_, ?_, ?_, ?_, ?_⟩
  · intro c2 hc2
    by_cases he : c2 = c
    · subst he
      have hF := hF c2 hc2
      rw [← hq] at hF ⊢
      obtain ⟨f1, f2, f3, f4, f5, f6, f7, f8, f9, f10, f11, f12, f13, f14⟩ := hF
      unfold rF
      rw [po q 0 (by omega), po q 6 (by omega), po q 8 (by omega), po q 9 (by omega), po q 10 (by omega), po q 11 (by omega), po q 12 (by omega), po q 14 (by omega), po q 16 (by omega), po q 17 (by omega), po q 18 (by omega), p_begin_7, p_begin_z (a := q) (b := 13) (by omega), p_begin_z (a := q) (b := 15) (by omega), bo 66 c2 (by omega), bo 84 c2 (by omega), bo 94 c2 (by omega), bo 67 c2 (by omega), bo 96 c2 (by omega), bo 85 c2 (by omega), bo 86 c2 (by omega)]
      refine ⟨f1, f2, by simp [k_bp], f4, f5, f6, ?_, ?_, ?_, ?_, by simp [k_bp], fun _ => ⟨0, by omega, rfl⟩, f13, f14⟩
      · rw [f7]
        exact b_congr 2 (fun j hj => by simp only [bo 69 (2 * c2 + j) (by omega)])
      · rw [f8]
        exact b_congr 8 (fun j hj => by simp only [bo 77 (8 * c2 + j) (by omega)])
      · refine ((b_zero (by omega)).mpr (fun s hs => ?_)).symm
        rw [k_bp, if_neg (by omega), if_neg (by omega), if_neg (by omega), if_pos (by omega)]
      · rw [f10]
        exact b_congr 8 (fun j hj => by simp only [bo 79 (8 * c2 + j) (by omega)])
    · exact rF_ext (fun b => po _ _ (by omega)) (fun a b u => bo a b (by omega)) (hF c2 hc2)
  · intro c2 hc2
    by_cases he : c2 = c
    · subst he
      have hE := hE c2 hc2
      rw [← hq] at hE ⊢
      intro j hj
      have hEj := hE j hj
      have kz : ∀ a, a = 70 ∨ a = 74 → k_bp y c2 32 8 a (32 * c2 + j) = 0 := fun a ha => by rw [k_bp, if_neg (by omega), if_neg (by omega), if_pos (by omega)]
      have y73 : k_bp y c2 32 8 73 (32 * c2 + j) = 0 := by
        rw [bo 73 _ (by omega), hEj.2.1, tw_off (by omega)]
        exact hd j hj
      rw [kz 70 (by omega), kz 74 (by omega), y73, p_begin_z (a := q + 2) (by omega), p_begin_z (a := q + 3) (by omega), p_begin_z (a := q + 7) (by omega)]
      exact ⟨rfl, rfl, fun u => absurd rfl u, fun u => absurd rfl u, rfl, fun u => absurd rfl u⟩
    · exact rE_ext (fun a b u => po a b (by omega)) (fun a b u => bo a b (by omega)) (hE c2 hc2)
  · intro c2 hc2
    by_cases he : c2 = c
    · subst he
      have hI := hI c2 hc2
      rw [← hq] at hI ⊢
      obtain ⟨a, m, i1, i2, i3, i4, i5, i6⟩ := hI
      exact ⟨a, 0, i1, by omega, by rw [po _ _ (by omega)]; exact i3, p_begin_z (by omega), by simp [k_bp, tw_n0], fun i hi => by omega⟩
    · exact rI_ext (Nat.le_refl _) (fun a b u => po a b (by omega)) (fun a b u => bo a b (by omega)) (hI c2 hc2)
  · intro c2 hc2
    by_cases he : c2 = c
    · subst he
      have hS := hS c2 hc2
      rw [← hq] at hS ⊢
      have e1 : p_begin x q k (q + 17) 3 = -1 := by rw [p_begin_off (by omega)]; exact hst
      refine ⟨?_, Or.inl e1⟩
      rw [e1, bo _ _ (by omega), hS.1, tw_off (by omega)]
      exact hst
    · exact rS_ext (fun a b u => po a b (by omega)) (fun b _ u => by rw [po _ _ (by omega)]; exact u) (fun a b u => bo a b (by omega)) (hS c2 hc2)
  · intro c2 hc2
    exact rW_ext (fun b => po _ _ (by omega)) (fun a u => bo a _ (by omega)) (hW c2 hc2)
/-- the volumes are shared out -/
theorem k_ow_69 {g : tw_S} {w : Nat} (hw : w < 2) : ∀ j, j < 4 → k_ow (k_ow g w 0) w 1 69 j = if g 69 (j % 2) = 0 ∧ g 69 (2 + j % 2) = 0 then (if j < 2 then 1 else g 69 j) else if ¬ g 69 (j % 2) = 0 ∧ ¬ g 69 (2 + j % 2) = 0 then (if j / 2 = 1 - w then 0 else g 69 j) else g 69 j := by
  intro j hj
  rcases (show w = 0 ∨ w = 1 by omega) with rfl | rfl <;> rcases (show j = 0 ∨ j = 1 ∨ j = 2 ∨ j = 3 by omega) with rfl | rfl | rfl | rfl <;> by_cases a0 : g 69 0 = 0 <;> by_cases a1 : g 69 1 = 0 <;> by_cases a2 : g 69 2 = 0 <;> by_cases a3 : g 69 3 = 0 <;> simp [k_ow, tw_up, a0, a1, a2, a3]
theorem r_share {g : tw_S} {w : Nat} (hw : w < 2) : (w = 0 → p_bits (fun v => g 69 (2 * 0 + v)) 2 ||| (3 &&& ((p_bits (fun v => g 69 (2 * 0 + v)) 2 ||| p_bits (fun v => g 69 (2 * 1 + v)) 2) ^^^ -1)) = p_bits (fun v => k_ow (k_ow g w 0) w 1 69 (2 * 0 + v)) 2 ∧ p_bits (fun v => g 69 (2 * 1 + v)) 2 &&& ((p_bits (fun v => g 69 (2 * 0 + v)) 2 &&& p_bits (fun v => g 69 (2 * 1 + v)) 2) ^^^ -1) = p_bits (fun v => k_ow (k_ow g w 0) w 1 69 (2 * 1 + v)) 2) ∧ (w = 1 → (p_bits (fun v => g 69 (2 * 0 + v)) 2 ||| (3 &&& ((p_bits (fun v => g 69 (2 * 0 + v)) 2 ||| p_bits (fun v => g 69 (2 * 1 + v)) 2) ^^^ -1))) &&& ((p_bits (fun v => g 69 (2 * 0 + v)) 2 &&& p_bits (fun v => g 69 (2 * 1 + v)) 2) ^^^ -1) = p_bits (fun v => k_ow (k_ow g w 0) w 1 69 (2 * 0 + v)) 2 ∧ p_bits (fun v => g 69 (2 * 1 + v)) 2 = p_bits (fun v => k_ow (k_ow g w 0) w 1 69 (2 * 1 + v)) 2) := by
  have k := k_ow_69 (g := g) hw
  rw [b_two, b_two, b_two, b_two]
  simp only [Nat.mul_zero, Nat.zero_add, Nat.mul_one, Nat.reduceAdd]
  rw [k 0 (by omega), k 1 (by omega), k 2 (by omega), k 3 (by omega)]
  clear k
  simp only [Nat.reduceMod, Nat.reduceAdd, Nat.reduceLT, Nat.reduceDiv]
  rcases (show w = 0 ∨ w = 1 by omega) with rfl | rfl <;> by_cases a0 : g 69 0 = 0 <;> by_cases a1 : g 69 1 = 0 <;> by_cases a2 : g 69 2 = 0 <;> by_cases a3 : g 69 3 = 0 <;> simp [tw_nz, a0, a1, a2, a3] <;> decide
