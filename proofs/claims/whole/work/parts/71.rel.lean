/-! The relation between the class's memory x (cells below 61) and the reference's memory y (cells from 61 on). -/
def rD (x y : tw_S) : Prop := y 62 = x 2 ∧ y 63 = x 3 ∧ y 64 = x 4 ∧ y 65 = x 5
def rL (x y : tw_S) : Prop := ∃ m, m ≤ 20 ∧ x 12 4 = nI m ∧ y 61 45 = nI m ∧ ∀ k, k < m → y 104 k = x 13 k ∧ y 105 k = x 14 k ∧ y 106 k = x 15 k ∧ y 107 k = x 16 k ∧ (∃ i, i < 5 ∧ x 13 k = nI i) ∧ ∃ s, s < 8 ∧ x 14 k = nI s
def rT (x y : tw_S) (m : Nat) : Prop := m ≤ 200 ∧ x 6 5 = nI m ∧ y 61 39 = nI m ∧ ∀ t, t < m → y 99 t = x 7 t ∧ y 100 t = x 8 t ∧ (x 7 t = 0 → y 101 t = x 9 t ∧ y 102 t = x 10 t ∧ y 103 t = x 11 t)
/-- a controller's own numbers: number, up, paired, taking over, to flush, key, owned, notes, remarks, repairs, missed, its bound, given, the taking's -/
def rF (x y : tw_S) (c q : Nat) : Prop := x q 0 = nI c ∧ y 66 c = x q 6 ∧ y 68 c = x q 7 ∧ y 84 c = x q 8 ∧ y 94 c = x q 9 ∧ y 67 c = x q 10 ∧ x q 11 = p_bits (fun v => y 69 (2 * c + v)) 2 ∧ x q 12 = p_bits (fun s => y 77 (8 * c + s)) 8 ∧ x q 13 = p_bits (fun s => y 78 (8 * c + s)) 8 ∧ x q 14 = p_bits (fun s => y 79 (8 * c + s)) 8 ∧ y 95 c = x q 15 ∧ (¬ x q 7 = 0 → ∃ m, m < 4 ∧ x q 15 = nI m) ∧ y 96 c = x q 16 ∧ (¬ x q 8 = 0 → ∃ i, i ≤ 5 ∧ x q 17 = nI i ∧ y 85 c = nI i ∧ y 86 c = x q 18)
def rE (x y : tw_S) (c q : Nat) : Prop := ∀ j, j < 32 → y 70 (32 * c + j) = x (q + 2) j ∧ y 73 (32 * c + j) = x (q + 3) j ∧ (¬ x (q + 3) j = 0 → ¬ x (q + 2) j = 0) ∧ (¬ x (q + 2) j = 0 → y 71 (32 * c + j) = x (q + 4) j ∧ y 72 (32 * c + j) = x (q + 5) j) ∧ y 74 (32 * c + j) = x (q + 7) j ∧ (¬ x (q + 7) j = 0 → y 75 (32 * c + j) = x (q + 9) j ∧ y 76 (32 * c + j) = x (q + 10) j)
def rM (tm : Nat) (k p v w t m0 m1 m2 m3 m4 : Int32) : Prop := k = m0 ∧ ((k = 0 ∧ (∃ b, b < 32 ∧ p = nI b) ∧ p = m1 ∧ v = m2 ∧ w = m3 ∧ t = m4 ∧ ∃ j, j < tm ∧ t = nI j) ∨ (k = 1 ∧ t = m1 ∧ ∃ j, j < tm ∧ t = nI j) ∨ (k = 2 ∧ (∃ b, b < 32 ∧ p = nI b) ∧ p = m1 ∧ w = m2) ∨ ((k = 3 ∨ k = 4) ∧ (∃ s, s < 8 ∧ p = nI s) ∧ p = m1) ∨ k = 5)
def rI (x y : tw_S) (tm c q : Nat) : Prop := ∃ a m, a < 40 ∧ m ≤ 40 ∧ x (q + 11) 5 = nI a ∧ x (q + 11) 6 = nI m ∧ y 98 c = nI m ∧ ∀ i, i < m → rM tm (x (q + 12) ((a + i) % 40)) (x (q + 13) ((a + i) % 40)) (x (q + 14) ((a + i) % 40)) (x (q + 15) ((a + i) % 40)) (x (q + 16) ((a + i) % 40)) (y 97 (200 * c + 5 * i)) (y 97 (200 * c + 5 * i + 1)) (y 97 (200 * c + 5 * i + 2)) (y 97 (200 * c + 5 * i + 3)) (y 97 (200 * c + 5 * i + 4))
def rS1 (x y : tw_S) (c q s : Nat) : Prop := ∃ k, k ≤ 5 ∧ y 88 c = nI k ∧ (k ≤ 4 → x (q + 17) 4 = nI k ∧ x (q + 17) 6 = 0) ∧ (k = 5 → x (q + 17) 4 = nI 4 ∧ ¬ x (q + 17) 6 = 0) ∧ (∀ i, i < 4 → y 89 (4 * c + i) = x (q + 18) i ∧ (¬ x (q + 18) i = 0 → y 90 (4 * c + i) = x (q + 19) i ∧ y 91 (4 * c + i) = x (q + 20) i ∧ ¬ x (q + 3) (s * 4 + i) = 0)) ∧ (x (q + 17) 5 = 0 ↔ ¬ y 93 c = 0) ∧ (x (q + 17) 5 = 0 → y 92 c = p_x4 (x (q + 19)) 4)
def rS (x y : tw_S) (c q : Nat) : Prop := y 87 c = x (q + 17) 3 ∧ (x (q + 17) 3 = -1 ∨ ∃ s, s < 8 ∧ x (q + 17) 3 = nI s ∧ rS1 x y c q s)
def rW (x y : tw_S) (c q : Nat) : Prop := (x (q + 21) 0 = 0 ∧ y 80 c = -1) ∨ (¬ x (q + 21) 0 = 0 ∧ ∃ i s, i < 5 ∧ s < 8 ∧ x (q + 21) 1 = nI i ∧ x (q + 21) 2 = nI s ∧ y 80 c = nI i ∧ y 81 c = nI s ∧ y 82 c = x (q + 21) 3 ∧ y 83 c = x (q + 21) 4)
def rR (x y : tw_S) (tm : Nat) : Prop := rD x y ∧ rL x y ∧ rT x y tm ∧ y 61 38 = x 0 5 ∧ (∀ c, c < 2 → rF x y c (17 + 22 * c)) ∧ (∀ c, c < 2 → rE x y c (17 + 22 * c)) ∧ (∀ c, c < 2 → rI x y tm c (17 + 22 * c)) ∧ (∀ c, c < 2 → rS x y c (17 + 22 * c)) ∧ (∀ c, c < 2 → rW x y c (17 + 22 * c))
section RX
variable {x y x2 y2 : tw_S} {c q tm : Nat}
theorem rD_ext (hx : ∀ a b, 2 ≤ a ∧ a ≤ 5 → x2 a b = x a b) (hy : ∀ a b, 62 ≤ a ∧ a ≤ 65 → y2 a b = y a b) (h : rD x y) : rD x2 y2 := by
  obtain ⟨h1, h2, h3, h4⟩ := h
  refine ⟨?_, ?_, ?_, ?_⟩ <;> funext j
  · rw [hx _ _ (by omega), hy _ _ (by omega), h1]
  · rw [hx _ _ (by omega), hy _ _ (by omega), h2]
  · rw [hx _ _ (by omega), hy _ _ (by omega), h3]
  · rw [hx _ _ (by omega), hy _ _ (by omega), h4]
theorem rL_ext (hx : ∀ a b, (12 ≤ a ∧ a ≤ 16) → x2 a b = x a b) (hy : ∀ a b, (104 ≤ a ∧ a ≤ 107) ∨ (a = 61 ∧ b = 45) → y2 a b = y a b) (h : rL x y) : rL x2 y2 := by
  obtain ⟨m, h1, h2, h3, h4⟩ := h
  refine ⟨m, h1, by rw [hx _ _ (by omega)]; exact h2, by rw [hy _ _ (by omega)]; exact h3, fun k hk => ?_⟩
  rw [hx 13 k (by omega), hx 14 k (by omega), hx 15 k (by omega), hx 16 k (by omega), hy 104 k (by omega), hy 105 k (by omega), hy 106 k (by omega), hy 107 k (by omega)]
  exact h4 k hk
theorem rT_ext (hx : ∀ a b, (6 ≤ a ∧ a ≤ 11) → x2 a b = x a b) (hy : ∀ a b, (99 ≤ a ∧ a ≤ 103) ∨ (a = 61 ∧ b = 39) → y2 a b = y a b) (h : rT x y tm) : rT x2 y2 tm := by
  obtain ⟨h1, h2, h3, h4⟩ := h
  refine ⟨h1, by rw [hx _ _ (by omega)]; exact h2, by rw [hy _ _ (by omega)]; exact h3, fun k hk => ?_⟩
  rw [hx 7 k (by omega), hx 8 k (by omega), hx 9 k (by omega), hx 10 k (by omega), hx 11 k (by omega), hy 99 k (by omega), hy 100 k (by omega), hy 101 k (by omega), hy 102 k (by omega), hy 103 k (by omega)]
  exact h4 k hk
theorem rF_ext (hx : ∀ b, x2 q b = x q b) (hy : ∀ a b, ((66 ≤ a ∧ a ≤ 68 ∨ 84 ≤ a ∧ a ≤ 86 ∨ 94 ≤ a ∧ a ≤ 96) ∧ b = c) ∨ (a = 69 ∧ 2 * c ≤ b ∧ b < 2 * c + 2) ∨ (77 ≤ a ∧ a ≤ 79 ∧ 8 * c ≤ b ∧ b < 8 * c + 8) → y2 a b = y a b) (h : rF x y c q) : rF x2 y2 c q := by
  unfold rF at h ⊢
  rw [hx, hx, hx, hx, hx, hx, hx, hx, hx, hx, hx, hx, hx, hx, hy 66 c (by omega), hy 68 c (by omega), hy 84 c (by omega), hy 94 c (by omega), hy 67 c (by omega), hy 95 c (by omega), hy 96 c (by omega), hy 85 c (by omega), hy 86 c (by omega), b_congr (g := fun v => y2 69 (2 * c + v)) (g2 := fun v => y 69 (2 * c + v)) 2 (fun j hj => by simp only [hy 69 (2 * c + j) (by omega)]), b_congr (g := fun v => y2 77 (8 * c + v)) (g2 := fun v => y 77 (8 * c + v)) 8 (fun j hj => by simp only [hy 77 (8 * c + j) (by omega)]), b_congr (g := fun v => y2 78 (8 * c + v)) (g2 := fun v => y 78 (8 * c + v)) 8 (fun j hj => by simp only [hy 78 (8 * c + j) (by omega)]), b_congr (g := fun v => y2 79 (8 * c + v)) (g2 := fun v => y 79 (8 * c + v)) 8 (fun j hj => by simp only [hy 79 (8 * c + j) (by omega)])]
  exact h
theorem rE_ext (hx : ∀ a b, q + 2 ≤ a ∧ a ≤ q + 10 → x2 a b = x a b) (hy : ∀ a b, 70 ≤ a ∧ a ≤ 76 ∧ 32 * c ≤ b ∧ b < 32 * c + 32 → y2 a b = y a b) (h : rE x y c q) : rE x2 y2 c q := by
  intro j hj
  rw [hx (q + 2) j (by omega), hx (q + 3) j (by omega), hx (q + 4) j (by omega), hx (q + 5) j (by omega), hx (q + 7) j (by omega), hx (q + 9) j (by omega), hx (q + 10) j (by omega), hy 70 _ (by omega), hy 71 _ (by omega), hy 72 _ (by omega), hy 73 _ (by omega), hy 74 _ (by omega), hy 75 _ (by omega), hy 76 _ (by omega)]
  exact h j hj
theorem rM_mono {tm2 : Nat} {k p v w t m0 m1 m2 m3 m4 : Int32} (h : rM tm k p v w t m0 m1 m2 m3 m4) (h2 : tm ≤ tm2) : rM tm2 k p v w t m0 m1 m2 m3 m4 := by
  obtain ⟨h0, h⟩ := h
  refine ⟨h0, ?_⟩
  rcases h with ⟨a1, a2, a3, a4, a5, a6, j, a7, a8⟩ | ⟨a1, a2, j, a3, a4⟩ | h | h | h
  · exact Or.inl ⟨a1, a2, a3, a4, a5, a6, j, by omega, a8⟩
  · exact Or.inr (Or.inl ⟨a1, a2, j, by omega, a4⟩)
  · exact Or.inr (Or.inr (Or.inl h))
  · exact Or.inr (Or.inr (Or.inr (Or.inl h)))
  · exact Or.inr (Or.inr (Or.inr (Or.inr h)))
theorem rI_ext {tm2 : Nat} (h2 : tm ≤ tm2) (hx : ∀ a b, q + 11 ≤ a ∧ a ≤ q + 16 → x2 a b = x a b) (hy : ∀ a b, (a = 98 ∧ b = c) ∨ (a = 97 ∧ 200 * c ≤ b ∧ b < 200 * c + 200) → y2 a b = y a b) (h : rI x y tm c q) : rI x2 y2 tm2 c q := by
  obtain ⟨a, m, h1, h2, h3, h4, h5, h6⟩ := h
  refine ⟨a, m, h1, h2, by rw [hx _ _ (by omega)]; exact h3, by rw [hx _ _ (by omega)]; exact h4, by rw [hy _ _ (by omega)]; exact h5, fun i hi => ?_⟩
  rw [hx (q + 12) _ (by omega), hx (q + 13) _ (by omega), hx (q + 14) _ (by omega), hx (q + 15) _ (by omega), hx (q + 16) _ (by omega), hy _ (200 * c + 5 * i) (by omega), hy _ (200 * c + 5 * i + 1) (by omega), hy _ (200 * c + 5 * i + 2) (by omega), hy _ (200 * c + 5 * i + 3) (by omega), hy _ (200 * c + 5 * i + 4) (by omega)]
  exact rM_mono (h6 i hi) (by omega)
theorem p_x4_congr {g g2 : Nat → Int32} : ∀ n, (∀ j, j < n → g j = g2 j) → p_x4 g n = p_x4 g2 n
  | 0, _ => rfl
  | n + 1, h => by
    unfold p_x4
    rw [p_x4_congr n (fun j hj => h j (by omega)), h n (by omega)]
theorem rS_ext (hx : ∀ a b, q + 17 ≤ a ∧ a ≤ q + 20 → x2 a b = x a b) (hd : ∀ b, b < 32 → ¬ x (q + 3) b = 0 → ¬ x2 (q + 3) b = 0) (hy : ∀ a b, ((87 ≤ a ∧ a ≤ 88 ∨ 92 ≤ a ∧ a ≤ 93) ∧ b = c) ∨ (89 ≤ a ∧ a ≤ 91 ∧ 4 * c ≤ b ∧ b < 4 * c + 4) → y2 a b = y a b) (h : rS x y c q) : rS x2 y2 c q := by
  obtain ⟨h1, h2⟩ := h
  refine ⟨by rw [hx _ _ (by omega), hy _ _ (by omega)]; exact h1, ?_⟩
  rw [hx _ _ (by omega)]
  rcases h2 with h2 | ⟨s, s1, s2, k, k1, k2, k3, k4, k5, k6, k7⟩
  · exact Or.inl h2
  · refine Or.inr ⟨s, s1, s2, k, k1, by rw [hy _ _ (by omega)]; exact k2, by rw [hx _ _ (by omega), hx _ _ (by omega)]; exact k3, by rw [hx _ _ (by omega), hx _ _ (by omega)]; exact k4, fun i hi => ?_, by rw [hx _ _ (by omega), hy _ _ (by omega)]; exact k6, ?_⟩
    · obtain ⟨i1, i2⟩ := k5 i hi
      rw [hx (q + 18) i (by omega), hx (q + 19) i (by omega), hx (q + 20) i (by omega), hy 89 _ (by omega), hy 90 _ (by omega), hy 91 _ (by omega)]
      exact ⟨i1, fun u => ⟨(i2 u).1, (i2 u).2.1, hd _ (by omega) (i2 u).2.2⟩⟩
    · rw [hx _ _ (by omega), hy _ _ (by omega), p_x4_congr (g := x2 (q + 19)) (g2 := x (q + 19)) 4 (fun j hj => hx _ _ (by omega))]
      exact k7
theorem rW_ext (hx : ∀ b, x2 (q + 21) b = x (q + 21) b) (hy : ∀ a, 80 ≤ a ∧ a ≤ 83 → y2 a c = y a c) (h : rW x y c q) : rW x2 y2 c q := by
  unfold rW at h ⊢
  rw [hx, hx, hx, hx, hx, hy 80 (by omega), hy 81 (by omega), hy 82 (by omega), hy 83 (by omega)]
  exact h
/-- the relation speaks of the class's cells in x and of the reference's in y, but not of what was thrown -/
theorem rR_ext (hx : ∀ a b, a < 61 → x2 a b = x a b) (hy : ∀ a b, 61 ≤ a → ¬ (a = 61 ∧ b = 0) → y2 a b = y a b) (h : rR x y tm) : rR x2 y2 tm := by
  obtain ⟨h1, h2, h3, h4, h5, h6, h7, h8, h9⟩ := h
  refine ⟨rD_ext (fun a b _ => hx a b (by omega)) (fun a b _ => hy a b (by omega) (by omega)) h1, rL_ext (fun a b _ => hx a b (by omega)) (fun a b _ => hy a b (by omega) (by omega)) h2, rT_ext (fun a b _ => hx a b (by omega)) (fun a b _ => hy a b (by omega) (by omega)) h3, by rw [hx _ _ (by omega), hy _ _ (by omega) (by omega)]; exact h4, fun c hc => rF_ext (fun b => hx _ b (by omega)) (fun a b _ => hy a b (by omega) (by omega)) (h5 c hc), fun c hc => rE_ext (fun a b _ => hx a b (by omega)) (fun a b _ => hy a b (by omega) (by omega)) (h6 c hc), fun c hc => rI_ext (Nat.le_refl _) (fun a b _ => hx a b (by omega)) (fun a b _ => hy a b (by omega) (by omega)) (h7 c hc), fun c hc => rS_ext (fun a b _ => hx a b (by omega)) (fun b _ u => by rw [hx _ _ (by omega)]; exact u) (fun a b _ => hy a b (by omega) (by omega)) (h8 c hc), fun c hc => rW_ext (fun b => hx _ b (by omega)) (fun a _ => hy a _ (by omega) (by omega)) (h9 c hc)⟩
end RX
/-- the end of every call: w is the reference's last memory, z the class's -/
theorem rR_glue {z w : tw_S} {tm : Nat} (h : rR z w tm) (hw : ∀ a b, a < 61 → w a b = z a b) : rR w w tm := rR_ext hw (fun _ _ _ _ => rfl) h
