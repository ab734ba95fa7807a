/-! Bits. -/
theorem b_ext {a b : Int32} (h : ∀ i, i < 32 → a.toBitVec.getLsbD i = b.toBitVec.getLsbD i) : a = b := Int32.toBitVec_inj.mp (BitVec.eq_of_getLsbD_eq (fun i hi => h i hi))
theorem b_one : ∀ s : Fin 8, ∀ i : Fin 32, ((1 : Int32) <<< (nI s.1 &&& 31)).toBitVec.getLsbD i.1 = decide (i.1 = s.1) := by decide +kernel
theorem b_one' {s i : Nat} (hs : s < 8) (hi : i < 32) : ((1 : Int32) <<< (nI s &&& 31)).toBitVec.getLsbD i = decide (i = s) := b_one ⟨s, hs⟩ ⟨i, hi⟩
theorem b_m1 : ∀ i : Fin 32, (-1 : Int32).toBitVec.getLsbD i.1 = true := by decide +kernel
theorem b_m1' {i : Nat} (hi : i < 32) : (-1 : Int32).toBitVec.getLsbD i = true := b_m1 ⟨i, hi⟩
theorem b_get {g : Nat → Int32} : ∀ n, n ≤ 8 → ∀ i, i < 32 → (p_bits g n).toBitVec.getLsbD i = decide (i < n ∧ ¬ g i = 0)
  | 0, _, i, _ => by
    have : (p_bits g 0).toBitVec = 0#32 := rfl
    rw [this]
    simp
  | n + 1, hn, i, hi => by
    have ih := b_get (g := g) n (by omega) i hi
    unfold p_bits
    split
    · rename_i h0
      rw [ih]
      by_cases hi2 : i = n
      · subst hi2
        simp [h0]
      · have : (i < n + 1) = (i < n) := by apply propext; omega
        simp only [this]
    · rename_i h0
      rw [Int32.toBitVec_or, BitVec.getLsbD_or, ih, b_one' (by omega) hi]
      by_cases hi2 : i = n
      · subst hi2
        simp [h0]
      · have : (i < n + 1) = (i < n) := by apply propext; omega
        simp [this, hi2]
theorem b_pbit0 : ∀ n : Fin 8, (nI n.1 &&& 31).toBitVec.smod 32 = BitVec.ofNat 32 n.1 := by decide +kernel
theorem b_pbit {x : Int32} {n : Nat} (hn : n < 8) : p_bit x n ↔ x.toBitVec.getLsbD n = true := by
  unfold p_bit
  rw [← Int32.toBitVec_inj, Int32.toBitVec_and, Int32.toBitVec_shiftRight, b_pbit0 ⟨n, hn⟩]
  have e : ∀ i, i < 32 → (x.toBitVec.sshiftRight' (BitVec.ofNat 32 n) &&& 1#32).getLsbD i = (decide (i = 0) && x.toBitVec.getLsbD n) := by
    intro i hi
    rw [BitVec.getLsbD_and, show x.toBitVec.sshiftRight' (BitVec.ofNat 32 n) = x.toBitVec.sshiftRight (BitVec.ofNat 32 n).toNat from rfl, BitVec.getLsbD_sshiftRight, BitVec.toNat_ofNat, Nat.mod_eq_of_lt (by omega)]
    by_cases h0 : i = 0
    · subst h0
      simp
      intro h
      omega
    · simp [h0, BitVec.getLsbD_one]
  constructor
  · intro h
    have h1 := e 0 (by omega)
    rw [show (x.toBitVec.sshiftRight' (BitVec.ofNat 32 n) &&& 1#32) = 1#32 from h] at h1
    simpa using h1.symm
  · intro h
    refine BitVec.eq_of_getLsbD_eq (fun i hi => ?_)
    have h1 := e i hi
    rw [show Int32.toBitVec 1 = 1#32 from rfl, h1, h]
    simp [BitVec.getLsbD_one]
theorem b_congr {g g2 : Nat → Int32} : ∀ n, (∀ j, j < n → (g j = 0 ↔ g2 j = 0)) → p_bits g n = p_bits g2 n
  | 0, _ => rfl
  | n + 1, h => by
    have ih := b_congr (g := g) (g2 := g2) n (fun j hj => h j (by omega))
    unfold p_bits
    rw [ih]
    have h0 := h n (by omega)
    by_cases h1 : g n = 0
    · rw [if_pos h1, if_pos (h0.mp h1)]
    · rw [if_neg h1, if_neg (fun u => h1 (h0.mpr u))]
theorem b_bit {g : Nat → Int32} {n s : Nat} (hn : n ≤ 8) (hs : s < n) : p_bit (p_bits g n) s ↔ ¬ g s = 0 := by
  rw [b_pbit (by omega), b_get n hn s (by omega)]
  simp [hs]
theorem b_set {g : Nat → Int32} {n s : Nat} (hn : n ≤ 8) (hs : s < n) : p_bits g n ||| 1 <<< (nI s &&& 31) = p_bits (fun j => if j = s then 1 else g j) n := by
  refine b_ext (fun i hi => ?_)
  rw [Int32.toBitVec_or, BitVec.getLsbD_or, b_get n hn i hi, b_get n hn i hi, b_one' (by omega) hi]
  by_cases h : i = s
  · subst h
    simp [hs]
  · simp [h]
theorem b_clr {g : Nat → Int32} {n s : Nat} (hn : n ≤ 8) (hs : s < n) : p_bits g n &&& (1 <<< (nI s &&& 31) ^^^ -1) = p_bits (fun j => if j = s then 0 else g j) n := by
  refine b_ext (fun i hi => ?_)
  rw [Int32.toBitVec_and, BitVec.getLsbD_and, Int32.toBitVec_xor, BitVec.getLsbD_xor, b_get n hn i hi, b_get n hn i hi, b_one' (by omega) hi, b_m1' hi]
  by_cases h : i = s
  · subst h
    simp
  · simp [h]
theorem b_or {g g2 h : Nat → Int32} {n : Nat} (hn : n ≤ 8) (hh : ∀ j, j < n → (h j = 0 ↔ g j = 0 ∧ g2 j = 0)) : p_bits g n ||| p_bits g2 n = p_bits h n := by
  refine b_ext (fun i hi => ?_)
  rw [Int32.toBitVec_or, BitVec.getLsbD_or, b_get n hn i hi, b_get n hn i hi, b_get n hn i hi]
  by_cases h1 : i < n
  · have := hh i h1
    by_cases a1 : g i = 0 <;> by_cases a2 : g2 i = 0 <;> simp [h1, a1, a2, this]
  · simp [h1]
theorem b_zero {g : Nat → Int32} {n : Nat} (hn : n ≤ 8) : p_bits g n = 0 ↔ ∀ s, s < n → g s = 0 := by
  constructor
  · intro h s hs
    have h1 := b_get (g := g) n hn s (by omega)
    rw [h, show Int32.toBitVec 0 = 0#32 from rfl] at h1
    simpa [hs] using h1
  · intro h
    rw [b_congr (g2 := fun _ => 0) n (fun j hj => by simp [h j hj])]
    refine b_ext (fun i hi => ?_)
    rw [b_get n hn i hi, show Int32.toBitVec 0 = 0#32 from rfl]
    simp
theorem b_ln {x y : Int32} {s : Nat} (hs : s < 8) : p_bit (x &&& (y ^^^ -1)) s ↔ p_bit x s ∧ ¬ p_bit y s := by
  rw [b_pbit hs, b_pbit hs, b_pbit hs, Int32.toBitVec_and, BitVec.getLsbD_and, Int32.toBitVec_xor, BitVec.getLsbD_xor, b_m1' (by omega)]
  simp
theorem b_two {g : Nat → Int32} : p_bits g 2 = tw_nz (g 0) + nI 2 * tw_nz (g 1) := by
  unfold p_bits p_bits p_bits tw_nz
  by_cases h0 : g 0 = 0 <;> by_cases h1 : g 1 = 0 <;> simp only [h0, h1, if_true, if_false] <;> decide
theorem p_ft_congr {g g2 : Nat → Int32} : ∀ n i, (∀ j, i ≤ j → j < i + n → (g j = 0 ↔ g2 j = 0)) → p_ft g n i = p_ft g2 n i
  | 0, i, _ => rfl
  | n + 1, i, h => by
    have ih := p_ft_congr (g := g) (g2 := g2) n (i + 1) (fun j h1 h2 => h j (by omega) (by omega))
    have h0 := h i (by omega) (by omega)
    unfold p_ft
    by_cases h1 : g i = 0
    · rw [if_pos h1, if_pos (h0.mp h1), ih]
    · rw [if_neg h1, if_neg (fun u => h1 (h0.mpr u))]
/-- none is found: all are 0 -/
theorem p_ft_none {g : Nat → Int32} : ∀ n i, ¬ p_ft g n i < i + n ↔ ∀ j, i ≤ j → j < i + n → g j = 0
  | 0, i => ⟨fun _ j h1 h2 => by omega, fun _ => by unfold p_ft; omega⟩
  | n + 1, i => by
    have ih := p_ft_none (g := g) n (i + 1)
    unfold p_ft
    by_cases h1 : g i = 0
    · rw [if_pos h1, show i + (n + 1) = i + 1 + n by omega, ih]
      constructor
      · intro h j h2 h3
        by_cases h4 : j = i
        · rw [h4]; exact h1
        · exact h j (by omega) h3
      · intro h j h2 h3
        exact h j (by omega) h3
    · rw [if_neg h1]
      constructor
      · intro h
        omega
      · intro h
        exact absurd (h i (by omega) (by omega)) h1
theorem p_ft_at {g : Nat → Int32} : ∀ n i, p_ft g n i < i + n → ¬ g (p_ft g n i) = 0
  | 0, i, h => by unfold p_ft at h; omega
  | n + 1, i, h => by
    unfold p_ft at h ⊢
    by_cases h1 : g i = 0
    · rw [if_pos h1] at h ⊢
      exact p_ft_at n (i + 1) (by omega)
    · rw [if_neg h1]
      exact h1
theorem p_cnt_congr {g g2 : Nat → Int32} : ∀ n, (∀ j, j < n → (g j = 0 ↔ g2 j = 0)) → p_cnt g n = p_cnt g2 n
  | 0, _ => rfl
  | n + 1, h => by
    have ih := p_cnt_congr (g := g) (g2 := g2) n (fun j hj => h j (by omega))
    have h0 := h n (by omega)
    unfold p_cnt
    rw [ih]
    by_cases h1 : g n = 0
    · rw [if_pos h1, if_pos (h0.mp h1)]
    · rw [if_neg h1, if_neg (fun u => h1 (h0.mpr u))]
theorem p_cnt_zero {g : Nat → Int32} : ∀ n, p_cnt g n = 0 ↔ ∀ j, j < n → g j = 0
  | 0 => ⟨fun _ j h => by omega, fun _ => rfl⟩
  | n + 1 => by
    have ih := p_cnt_zero (g := g) n
    unfold p_cnt
    by_cases h1 : g n = 0
    · rw [if_pos h1, Nat.add_zero, ih]
      constructor
      · intro h j hj
        by_cases h2 : j = n
        · rw [h2]; exact h1
        · exact h j (by omega)
      · intro h j hj
        exact h j (by omega)
    · rw [if_neg h1]
      constructor
      · intro h
        omega
      · intro h
        exact absurd (h n (by omega)) h1
theorem p_cd_congr {g g2 : Nat → Int32} : ∀ n, (∀ j, j < 4 * n → (g j = 0 ↔ g2 j = 0)) → p_cd g n = p_cd g2 n
  | 0, _ => rfl
  | n + 1, h => by
    have ih := p_cd_congr (g := g) (g2 := g2) n (fun j hj => h j (by omega))
    unfold p_cd
    rw [ih, p_cnt_congr 4 (fun j hj => h (n * 4 + j) (by omega))]
theorem p_cd_zero {g : Nat → Int32} : ∀ n, p_cd g n = 0 ↔ ∀ j, j < 4 * n → g j = 0
  | 0 => ⟨fun _ j h => by omega, fun _ => rfl⟩
  | n + 1 => by
    have ih := p_cd_zero (g := g) n
    have h2 := p_cnt_zero (g := fun j => g (n * 4 + j)) 4
    unfold p_cd
    constructor
    · intro h j hj
      by_cases h3 : j < 4 * n
      · exact ih.mp (by omega) j h3
      · have := h2.mp (by omega) (j - n * 4) (by omega)
        rw [show j = n * 4 + (j - n * 4) by omega]
        exact this
    · intro h
      rw [ih.mpr (fun j hj => h j (by omega)), h2.mpr (fun j hj => h _ (by omega))]
theorem p_ds_congr {g g2 : Nat → Int32} : ∀ n, n < 8 → (∀ j, j < 32 → (g j = 0 ↔ g2 j = 0)) → p_ds g n = p_ds g2 n
  | 0, _, _ => rfl
  | n + 1, hn, h => by
    have ih := p_ds_congr (g := g) (g2 := g2) n (by omega) h
    have hb := p_ds_le g2 n
    unfold p_ds
    rw [ih, p_cnt_congr (g := fun j => g (p_ds g2 n * 4 + j)) (g2 := fun j => g2 (p_ds g2 n * 4 + j)) 4 (fun j hj => h _ (by omega)), p_cnt_congr (g := fun j => g ((n + 1) * 4 + j)) (g2 := fun j => g2 ((n + 1) * 4 + j)) 4 (fun j hj => h _ (by omega))]
