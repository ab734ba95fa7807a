/-! The steps, part 1: landing, taking over, repairs, notes, beats. -/
theorem rR_landed {x y : tw_S} {tm c q : Nat} (h : rR x y tm) (hc : c < 2) (hq : q = 17 + 22 * c) : rR (tw_up x (q + 21) 0 0) (tw_up y 80 c (-1)) tm :=
  rR_setW h hc hq (fun a b u => tw_off (by omega)) (fun a b u => tw_off (by omega)) (Or.inl ⟨tw_on, tw_on⟩)
theorem rR_put {x y : tw_S} {tm i s : Nat} {v : Int32} (h : rR x y tm) : rR (tw_up (tw_up x 4 (i * 8 + s) v) 5 (i * 8 + s) 0) (k_put y i s v) tm :=
  rR_setD h (fun a b u => by rw [tw_off (by omega), tw_off (by omega)]) (fun a b u => by rw [k_put, tw_off (by omega), tw_off (by omega)]) (rD_put h.1)
theorem rR_begins {x y : tw_S} {tm c q i s : Nat} {v : Int32} (h : rR x y tm) (hc : c < 2) (hq : q = 17 + 22 * c) (hi : i < 5) (hs : s < 8) : rR (p_wr x q (nI i) (nI s) v (x q 10)) (k_begins y c (nI i) (nI s) v) tm := by
  have hk : y 67 c = x q 10 := by
    have := (h.2.2.2.2.1 c hc).2.2.2.2.2.1
    rw [← hq] at this
    exact this
  unfold p_wr k_begins
  refine rR_setW h hc hq (fun a b u => by rw [tw_off (by omega), tw_off (by omega), tw_off (by omega), tw_off (by omega), tw_off (by omega)]) (fun a b u => by rw [tw_off (by omega), tw_off (by omega), tw_off (by omega), tw_off (by omega)]) (Or.inr ⟨?_, i, s, hi, hs, ?_, ?_, ?_, ?_, ?_, ?_⟩)
  · rw [tw_off (by omega), tw_off (by omega), tw_off (by omega), tw_off (by omega), tw_on]; decide
  · rw [tw_off (by omega), tw_off (by omega), tw_off (by omega), tw_on]
  · rw [tw_off (by omega), tw_off (by omega), tw_on]
  · rw [tw_off (by omega), tw_off (by omega), tw_off (by omega), tw_on]
  · rw [tw_off (by omega), tw_off (by omega), tw_on]
  · rw [tw_off (by omega), tw_on, tw_off (by omega), tw_on]
  · rw [tw_on, tw_on, hk]
theorem rR_sip {x y : tw_S} {tm c q : Nat} {k p w a b : Int32} (h : rR x y tm) (hc : c < 2) (hq : q = 17 + 22 * c) (hM : rM tm k p 0 w (-1) k a b 0 0) : rR (p_sip x q k p w) (k_sip y c k a b) tm := by
  have hp : y 68 c = x q 7 := by
    have := (h.2.2.2.2.1 c hc).2.2.1
    rw [← hq] at this
    exact this
  unfold p_sip k_sip
  rw [hp]
  split
  · exact h
  · exact rR_send h hc (by omega) hM
theorem k_sip_off {f : tw_S} {c q j : Nat} {k a b : Int32} (h : q ≠ 97 ∧ q ≠ 98) : k_sip f c k a b q j = f q j := by
  unfold k_sip
  split
  · rfl
  · exact k_send_off h
theorem rR_repaired {x y : tw_S} {tm c q s : Nat} (h : rR x y tm) (hc : c < 2) (hq : q = 17 + 22 * c) (hs : s < 8) : rR (tw_up x q 14 (x q 14 &&& (1 <<< (nI s &&& 31) ^^^ -1))) (tw_up y 79 (8 * c + s) 0) tm := by
  refine rR_setF h hc hq (fun a b u => tw_off (by omega)) (fun a b u => tw_off (by omega)) ?_
  have hF := h.2.2.2.2.1 c hc
  rw [← hq] at hF
  obtain ⟨f1, f2, f3, f4, f5, f6, f7, f8, f9, f10, f11, f12, f13, f14⟩ := hF
  refine ⟨?_, ?_, ?_, ?_, ?_, ?_, ?_, ?_, ?_, ?_, ?_, ?_, ?_, ?_⟩ <;> try (first | assumption | (simp only [tw_up, eq_self, Nat.reduceEqDiff, true_and, and_true, false_and, and_false, if_true, if_false, reduceIte] <;> assumption))
  rw [tw_on, f10, b_clr (by omega) hs]
  refine b_congr 8 (fun j hj => ?_)
  unfold tw_up
  by_cases he : j = s
  · subst he
    simp
  · rw [if_neg he, if_neg (by omega)]
theorem rR_closed {x y : tw_S} {tm c q s : Nat} (h : rR x y tm) (hc : c < 2) (hq : q = 17 + 22 * c) (hs : s < 8) : rR (tw_up x q 12 (x q 12 &&& (1 <<< (nI s &&& 31) ^^^ -1))) (tw_up y 77 (8 * c + s) 0) tm := by
  refine rR_setF h hc hq (fun a b u => tw_off (by omega)) (fun a b u => tw_off (by omega)) ?_
  have hF := h.2.2.2.2.1 c hc
  rw [← hq] at hF
  obtain ⟨f1, f2, f3, f4, f5, f6, f7, f8, f9, f10, f11, f12, f13, f14⟩ := hF
  refine ⟨?_, ?_, ?_, ?_, ?_, ?_, ?_, ?_, ?_, ?_, ?_, ?_, ?_, ?_⟩ <;> try (first | assumption | (simp only [tw_up, eq_self, Nat.reduceEqDiff, true_and, and_true, false_and, and_false, if_true, if_false, reduceIte] <;> assumption))
  rw [tw_on, f8, b_clr (by omega) hs]
  refine b_congr 8 (fun j hj => ?_)
  unfold tw_up
  by_cases he : j = s
  · subst he
    simp
  · rw [if_neg he, if_neg (by omega)]
theorem rR_noted {x y : tw_S} {tm c q s : Nat} (h : rR x y tm) (hc : c < 2) (hq : q = 17 + 22 * c) (hs : s < 8) : rR (tw_up x q 12 (x q 12 ||| 1 <<< (nI s &&& 31))) (tw_up y 77 (8 * c + s) 1) tm := by
  refine rR_setF h hc hq (fun a b u => tw_off (by omega)) (fun a b u => tw_off (by omega)) ?_
  have hF := h.2.2.2.2.1 c hc
  rw [← hq] at hF
  obtain ⟨f1, f2, f3, f4, f5, f6, f7, f8, f9, f10, f11, f12, f13, f14⟩ := hF
  refine ⟨?_, ?_, ?_, ?_, ?_, ?_, ?_, ?_, ?_, ?_, ?_, ?_, ?_, ?_⟩ <;> try (first | assumption | (simp only [tw_up, eq_self, Nat.reduceEqDiff, true_and, and_true, false_and, and_false, if_true, if_false, reduceIte] <;> assumption))
  rw [tw_on, f8, b_set (by omega) hs]
  refine b_congr 8 (fun j hj => ?_)
  unfold tw_up
  by_cases he : j = s
  · subst he
    simp
  · rw [if_neg he, if_neg (by omega)]
theorem rR_flushed {x y : tw_S} {tm c q : Nat} (h : rR x y tm) (hc : c < 2) (hq : q = 17 + 22 * c) : rR (tw_up x q 9 0) (tw_up y 94 c 0) tm := by
  refine rR_setF h hc hq (fun a b u => tw_off (by omega)) (fun a b u => tw_off (by omega)) ?_
  have hF := h.2.2.2.2.1 c hc
  rw [← hq] at hF
  obtain ⟨f1, f2, f3, f4, f5, f6, f7, f8, f9, f10, f11, f12, f13, f14⟩ := hF
  refine ⟨?_, ?_, ?_, ?_, ?_, ?_, ?_, ?_, ?_, ?_, ?_, ?_, ?_, ?_⟩ <;> try (first | assumption | (simp only [tw_up, eq_self, Nat.reduceEqDiff, true_and, and_true, false_and, and_false, if_true, if_false, reduceIte] <;> assumption))
theorem rR_beat {x y : tw_S} {tm c q : Nat} (h : rR x y tm) (hc : c < 2) (hq : q = 17 + 22 * c) (hp : ¬ x q 7 = 0) : rR (p_beat x q) (k_beat y c) tm := by
  have hF := h.2.2.2.2.1 c hc
  rw [← hq] at hF
  have hpy : ¬ y 68 c = 0 := by rw [hF.2.2.1]; exact hp
  obtain ⟨m, m1, m2⟩ := hF.2.2.2.2.2.2.2.2.2.2.2.1 hp
  have hmi : y 95 c = x q 15 := hF.2.2.2.2.2.2.2.2.2.2.1
  have hs := rR_sip (k := 5) (p := 0) (w := 0) (a := 0) (b := 0) h hc hq ⟨rfl, Or.inr (Or.inr (Or.inr (Or.inr rfl)))⟩
  unfold p_beat k_beat
  have e4 : y 95 c + 1 = 4 ↔ ¬ x q 15 + 1 < 4 := by
    rw [hmi, m2, nI_1]
    rcases (show m = 0 ∨ m = 1 ∨ m = 2 ∨ m = 3 by omega) with rfl | rfl | rfl | rfl <;> decide
  have ks : k_sip y c 5 0 0 = k_send y c 5 0 0 0 0 := by rw [k_sip, if_neg hpy]
  rw [ks] at hs
  have e15 : p_sip x q 5 0 0 q 15 = x q 15 := p_sip_off (by omega) (by omega)
  have e95 : k_send y c 5 0 0 0 0 95 c = y 95 c := k_send_off (by omega)
  have hFs := hs.2.2.2.2.1 c hc
  rw [← hq] at hFs
  by_cases hl : x q 15 + 1 < 4
  · rw [if_pos hl, if_neg (fun u => e4.mp u hl)]
    refine rR_setF hs hc hq (fun a b u => tw_off (by omega)) (fun a b u => tw_off (by omega)) ?_
    generalize p_sip x q 5 0 0 = x2 at hFs e15 ⊢
    generalize k_send y c 5 0 0 0 0 = y2 at hFs e95 ⊢
    obtain ⟨f1, f2, f3, f4, f5, f6, f7, f8, f9, f10, f11, f12, f13, f14⟩ := hFs
    refine ⟨?_, ?_, ?_, ?_, ?_, ?_, ?_, ?_, ?_, ?_, ?_, ?_, ?_, ?_⟩ <;> try (first | assumption | (simp only [tw_up, eq_self, Nat.reduceEqDiff, true_and, and_true, false_and, and_false, if_true, if_false, reduceIte] <;> assumption))
    · rw [tw_on, tw_on, hmi]
    · intro _
      rw [tw_on, m2, nI_1]
      refine ⟨m + 1, ?_, rfl⟩
      rw [m2, nI_1] at hl
      have := (nI_ltI (a := m + 1) (b := 4) (by omega) (by omega)).mp hl
      omega
  · rw [if_neg hl, if_pos (e4.mpr hl)]
    refine rR_setF hs hc hq (fun a b u => by rw [tw_off (by omega), tw_off (by omega)]) (fun a b u => by rw [tw_off (by omega), tw_off (by omega)]) ?_
    generalize p_sip x q 5 0 0 = x2 at hFs e15 ⊢
    generalize k_send y c 5 0 0 0 0 = y2 at hFs e95 ⊢
    obtain ⟨f1, f2, f3, f4, f5, f6, f7, f8, f9, f10, f11, f12, f13, f14⟩ := hFs
    refine ⟨?_, ?_, ?_, ?_, ?_, ?_, ?_, ?_, ?_, ?_, ?_, ?_, ?_, ?_⟩ <;> try (first | assumption | (simp only [tw_up, eq_self, Nat.reduceEqDiff, true_and, and_true, false_and, and_false, if_true, if_false, reduceIte] <;> assumption))
    · rw [tw_off (by omega), tw_on, tw_off (by omega), tw_on, hmi]
    · intro u
      exact absurd tw_on u
/-! taking over -/
theorem rR_took {x y : tw_S} {tm c q p : Nat} (h : rR x y tm) (hc : c < 2) (hq : q = 17 + 22 * c) (hp : p < 5) (ht : ¬ x q 8 = 0) : rR (tw_up (tw_up (tw_up x 3 p (x q 10)) q 18 (x q 18 + 1)) q 17 (nI (p + 1))) (tw_up (tw_up (tw_up y 63 p (y 67 c)) 85 c (nI (p + 1))) 86 c (y 86 c + 1)) tm := by
  have hF := h.2.2.2.2.1 c hc
  rw [← hq] at hF
  have h1 : rR (tw_up x 3 p (x q 10)) (tw_up y 63 p (y 67 c)) tm := by
    refine rR_setD h (fun a b u => tw_off (by omega)) (fun a b u => tw_off (by omega)) ?_
    obtain ⟨d1, d2, d3, d4⟩ := h.1
    rw [hF.2.2.2.2.2.1]
    refine ⟨?_, ?_, ?_, ?_⟩ <;> funext j <;> simp only [tw_up, Nat.reduceEqDiff, false_and, if_false, true_and, d1, d2, d3, d4]
  obtain ⟨i, i1, i2, i3, i4⟩ := hF.2.2.2.2.2.2.2.2.2.2.2.2.2 ht
  refine rR_setF h1 hc hq (fun a b u => by rw [tw_off (by omega), tw_off (by omega)]) (fun a b u => by rw [tw_off (by omega), tw_off (by omega)]) ?_
  have hF2 := h1.2.2.2.2.1 c hc
  rw [← hq] at hF2
  have e18 : tw_up x 3 p (x q 10) q 18 = x q 18 := tw_off (by omega)
  generalize tw_up x 3 p (x q 10) = x2 at hF2 e18
  generalize tw_up y 63 p (y 67 c) = y2 at hF2
  obtain ⟨f1, f2, f3, f4, f5, f6, f7, f8, f9, f10, f11, f12, f13, f14⟩ := hF2
  refine ⟨?_, ?_, ?_, ?_, ?_, ?_, ?_, ?_, ?_, ?_, ?_, ?_, ?_, ?_⟩ <;> try (first | assumption | (simp only [tw_up, eq_self, Nat.reduceEqDiff, true_and, and_true, false_and, and_false, if_true, if_false, reduceIte] <;> assumption))
  intro _
  exact ⟨p + 1, by omega, tw_on, by rw [tw_off (by omega), tw_on], by rw [tw_on, tw_off (by omega), tw_on, i4]⟩
/-- the taking that fails: what the reference sets before it goes down is as if the class had set it -/
theorem rR_downt {x y : tw_S} {tm c q : Nat} (h : rR x y tm) (hc : c < 2) (hq : q = 17 + 22 * c) : rR (p_down x q) (k_down (tw_up (tw_up y 85 c (nI 5)) 84 c 0) c) tm := by
  have hq2 : q = 17 ∨ q = 39 := by omega
  have h1 : rR (tw_up x q 8 0) (tw_up (tw_up y 85 c (nI 5)) 84 c 0) tm := by
    refine rR_setF h hc hq (fun a b u => tw_off (by omega)) (fun a b u => by rw [tw_off (by omega), tw_off (by omega)]) ?_
    have hF := h.2.2.2.2.1 c hc
    rw [← hq] at hF
    obtain ⟨f1, f2, f3, f4, f5, f6, f7, f8, f9, f10, f11, f12, f13, f14⟩ := hF
    refine ⟨?_, ?_, ?_, ?_, ?_, ?_, ?_, ?_, ?_, ?_, ?_, ?_, ?_, ?_⟩ <;> try (first | assumption | (simp only [tw_up, eq_self, Nat.reduceEqDiff, true_and, and_true, false_and, and_false, if_true, if_false, reduceIte] <;> assumption))
    intro u
    exact absurd tw_on u
  refine rR_ext (fun a b _ => ?_) (fun _ _ _ _ => rfl) (rR_down hc hq h1)
  by_cases hz : (a = q ∧ 6 ≤ b ∧ b ≤ 16 ∧ b ≠ 10) ∨ ((a = q + 2 ∨ a = q + 3 ∨ a = q + 7 ∨ a = q + 8) ∧ b < 32) ∨ (a = q + 21 ∧ b = 0)
  · unfold p_down
    rw [p_forget_z hz, p_forget_z hz]
  · by_cases hs : a = q + 17 ∧ b = 3
    · unfold p_down
      rw [hs.1, hs.2, p_forget_s, p_forget_s]
    · by_cases h7 : a = 7
      · subst h7
        rw [p_down_t hq2, p_down_t hq2, tw_off (by omega), tw_off (by omega), tw_off (by omega), tw_off (by omega)]
      · by_cases hl : 12 ≤ a ∧ a ≤ 16
        · rw [p_down_l hq2 hl, p_down_l hq2 hl]
          unfold p_late
          have e0 : tw_up x q 8 0 (q + 21) 0 = x (q + 21) 0 := tw_off (by omega)
          have e1 : tw_up x q 8 0 (q + 21) 1 = x (q + 21) 1 := tw_off (by omega)
          have e2 : tw_up x q 8 0 (q + 21) 2 = x (q + 21) 2 := tw_off (by omega)
          have e3 : tw_up x q 8 0 (q + 21) 3 = x (q + 21) 3 := tw_off (by omega)
          have e4 : tw_up x q 8 0 (q + 21) 4 = x (q + 21) 4 := tw_off (by omega)
          have e5 : tw_up x q 8 0 12 4 = x 12 4 := tw_off (by omega)
          rw [e0, e1, e2, e3, e4, e5]
          split
          · exact (tw_off (by omega)).symm
          · simp only [tw_up]
            (repeat' split) <;> first | rfl | omega
        · rw [p_down_off (by omega), p_down_off (by omega), tw_off (by omega)]
theorem rR_takes {x y w : tw_S} {tm c q g : Nat} (h : rR x y tm) (hc : c < 2) (hq : q = 17 + 22 * c) (hg : x q 16 = nI g) (hw : tw_up (tw_up (tw_up (tw_up y 85 c (nI 5)) 84 c 0) 69 (2 * c) 1) 69 (2 * c + 1) 1 = w) : rR (fun c x2 => if c = q ∧ x2 = 12 then x q 12 ||| x q 13 else if c = q ∧ x2 = 14 then x q 14 ||| x q 13 else if c = q ∧ (x2 = 13 ∨ x2 = 8) then 0 else p_tk x q g 32 c x2) (k_rk (k_tk w c g 32) c 8) tm := by
  have hF := h.2.2.2.2.1 c hc
  have hE := h.2.2.2.2.2.1 c hc
  rw [← hq] at hF hE
  have wo : ∀ a b, ¬ ((a = 84 ∨ a = 85) ∧ b = c) ∧ ¬ (a = 69 ∧ (b = 2 * c ∨ b = 2 * c + 1)) → w a b = y a b := fun a b u => by rw [← hw, tw_off (by omega), tw_off (by omega), tw_off (by omega), tw_off (by omega)]
  have cnt : ∀ n, n ≤ 32 → p_cnt (fun j => w 74 (32 * c + j)) n = p_cnt (x (q + 7)) n := fun n hn => p_cnt_congr n (fun j hj => by simp only [wo 74 (32 * c + j) (by omega), (hE j (by omega)).2.2.2.2.1])
  -- the class's new memory
  generalize hX : (fun c x2 => if c = q ∧ x2 = 12 then x q 12 ||| x q 13 else if c = q ∧ x2 = 14 then x q 14 ||| x q 13 else if c = q ∧ (x2 = 13 ∨ x2 = 8) then 0 else p_tk x q g 32 c x2 : tw_S) = X
  have Xo : ∀ a b, ¬ (a = q ∧ (b = 8 ∨ 11 ≤ b ∧ b ≤ 14 ∨ b = 16)) ∧ ¬ ((q + 2 ≤ a ∧ a ≤ q + 5 ∨ a = q + 7 ∨ a = q + 8) ∧ b < 32) → X a b = x a b := fun a b u => by
    rw [← hX]
    show (if _ then _ else _) = _
    rw [if_neg (by omega), if_neg (by omega), if_neg (by omega), p_tk, if_neg (by omega), if_neg (by omega), if_neg (by omega), if_neg (by omega), if_neg (by omega), if_neg (by omega)]
  have X12 : X q 12 = x q 12 ||| x q 13 := by
    rw [← hX]
    exact if_pos ⟨rfl, rfl⟩
  have X14 : X q 14 = x q 14 ||| x q 13 := by
    rw [← hX]
    show (if _ then _ else _) = _
    rw [if_neg (by omega), if_pos ⟨rfl, rfl⟩]
  have X13 : X q 13 = 0 := by
    rw [← hX]
    show (if _ then _ else _) = _
    rw [if_neg (by omega), if_neg (by omega), if_pos (by omega)]
  have X8 : X q 8 = 0 := by
    rw [← hX]
    show (if _ then _ else _) = _
    rw [if_neg (by omega), if_neg (by omega), if_pos (by omega)]
  have X11 : X q 11 = 3 := by
    rw [← hX]
    show (if _ then _ else _) = _
    rw [if_neg (by omega), if_neg (by omega), if_neg (by omega), p_tk, if_pos ⟨rfl, rfl⟩]
  have X16 : X q 16 = nI (g + p_cnt (x (q + 7)) 32) := by
    rw [← hX]
    show (if _ then _ else _) = _
    rw [if_neg (by omega), if_neg (by omega), if_neg (by omega), p_tk, if_neg (by omega), if_pos ⟨rfl, rfl⟩]
  have Xh : ∀ j, j < 32 → ¬ x (q + 7) j = 0 → X (q + 2) j = 1 ∧ X (q + 3) j = 1 ∧ X (q + 4) j = x (q + 9) j ∧ X (q + 5) j = nI (g + p_cnt (x (q + 7)) (j + 1)) ∧ X (q + 7) j = 0 := fun j hj h7 => by
    rw [← hX]
    refine ⟨?_, ?_, ?_, ?_, ?_⟩ <;> show (if _ then _ else _) = _
    · rw [if_neg (by omega), if_neg (by omega), if_neg (by omega), p_tk, if_neg (by omega), if_neg (by omega), if_pos ⟨hj, h7, by omega⟩]
    · rw [if_neg (by omega), if_neg (by omega), if_neg (by omega), p_tk, if_neg (by omega), if_neg (by omega), if_pos ⟨hj, h7, by omega⟩]
    · rw [if_neg (by omega), if_neg (by omega), if_neg (by omega), p_tk, if_neg (by omega), if_neg (by omega), if_neg (by omega), if_pos ⟨hj, h7, by omega⟩]
    · rw [if_neg (by omega), if_neg (by omega), if_neg (by omega), p_tk, if_neg (by omega), if_neg (by omega), if_neg (by omega), if_neg (by omega), if_pos ⟨hj, h7, by omega⟩]
    · rw [if_neg (by omega), if_neg (by omega), if_neg (by omega), p_tk, if_neg (by omega), if_neg (by omega), if_neg (by omega), if_neg (by omega), if_neg (by omega), if_pos ⟨hj, h7, by omega⟩]
  have Xn : ∀ a j, a ≠ q → x (q + 7) j = 0 → X a j = x a j := fun a j ha h7 => by
    rw [← hX]
    show (if _ then _ else _) = _
    rw [if_neg (by omega), if_neg (by omega), if_neg (by omega), p_tk, if_neg (by omega), if_neg (by omega), if_neg (fun u => u.2.1 h7), if_neg (fun u => u.2.1 h7), if_neg (fun u => u.2.1 h7), if_neg (fun u => u.2.1 h7)]
  -- the reference's new memory
  generalize hZ : k_tk w c g 32 = z
  have zo : ∀ a b, ¬ (a = 96 ∧ b = c) ∧ ¬ (70 ≤ a ∧ a ≤ 74 ∧ 32 * c ≤ b ∧ b < 32 * c + 32) → z a b = w a b := fun a b u => by rw [← hZ, k_tk, if_neg (by omega), if_neg (by omega), if_neg (by omega), if_neg (by omega), if_neg (by omega)]
  have z96 : z 96 c = nI (g + p_cnt (x (q + 7)) 32) := by rw [← hZ, k_tk, if_pos ⟨rfl, rfl⟩, cnt 32 (by omega)]
  have zh : ∀ j, j < 32 → ¬ w 74 (32 * c + j) = 0 → z 70 (32 * c + j) = 1 ∧ z 73 (32 * c + j) = 1 ∧ z 71 (32 * c + j) = w 75 (32 * c + j) ∧ z 72 (32 * c + j) = nI (g + p_cnt (x (q + 7)) (j + 1)) ∧ z 74 (32 * c + j) = 0 := fun j hj h7 => by
    rw [← hZ]
    have hin : 32 * c ≤ 32 * c + j ∧ 32 * c + j < 32 * c + 32 ∧ ¬ w 74 (32 * c + j) = 0 := ⟨by omega, by omega, h7⟩
    refine ⟨?_, ?_, ?_, ?_, ?_⟩
    · rw [k_tk, if_neg (by omega), if_pos ⟨hin, by omega⟩]
    · rw [k_tk, if_neg (by omega), if_pos ⟨hin, by omega⟩]
    · rw [k_tk, if_neg (by omega), if_neg (by omega), if_pos ⟨hin, by omega⟩]
    · rw [k_tk, if_neg (by omega), if_neg (by omega), if_neg (by omega), if_pos ⟨hin, by omega⟩, show 32 * c + j - 32 * c + 1 = j + 1 by omega, cnt _ (by omega)]
    · rw [k_tk, if_neg (by omega), if_neg (by omega), if_neg (by omega), if_neg (by omega), if_pos ⟨hin, by omega⟩]
  have zn : ∀ a j, 70 ≤ a ∧ a ≤ 76 → j < 32 → w 74 (32 * c + j) = 0 → z a (32 * c + j) = w a (32 * c + j) := fun a j ha hj h7 => by
    rw [← hZ, k_tk, if_neg (by omega), if_neg (fun u => u.1.2.2 h7), if_neg (fun u => u.1.2.2 h7), if_neg (fun u => u.1.2.2 h7), if_neg (fun u => u.1.2.2 h7)]
  have ko : ∀ a b, ¬ (77 ≤ a ∧ a ≤ 79 ∧ 8 * c ≤ b ∧ b < 8 * c + 8) → k_rk z c 8 a b = z a b := fun a b u => by rw [k_rk, if_neg (by omega), if_neg (by omega)]
  have all : ∀ a b, ¬ ((a = 84 ∨ a = 85 ∨ a = 96) ∧ b = c) ∧ ¬ (a = 69 ∧ (b = 2 * c ∨ b = 2 * c + 1)) ∧ ¬ (70 ≤ a ∧ a ≤ 74 ∧ 32 * c ≤ b ∧ b < 32 * c + 32) ∧ ¬ (77 ≤ a ∧ a ≤ 79 ∧ 8 * c ≤ b ∧ b < 8 * c + 8) → k_rk z c 8 a b = y a b := fun a b u => by rw [ko a b (by omega), zo a b (by omega), wo a b (by omega)]
  obtain ⟨hD, hL, hT, hC, hFa, hEa, hI, hS, hW⟩ := h
  refine ⟨rD_ext (fun a b u => Xo a b (by omega)) (fun a b u => all a b (by omega)) hD, rL_ext (fun a b u => Xo a b (by omega)) (fun a b u => all a b (by omega)) hL, rT_ext (fun a b u => Xo a b (by omega)) (fun a b u => all a b (by omega)) hT, by rw [Xo _ _ (by omega), all _ _ (by omega)]; exact hC, ?_, ?_, fun c2 hc2 => rI_ext (Nat.le_refl _) (fun a b u => Xo a b (by omega)) (fun a b u => all a b (by omega)) (hI c2 hc2), ?_, fun c2 hc2 => rW_ext (fun b => Xo _ _ (by omega)) (fun a u => all a _ (by omega)) (hW c2 hc2)⟩
  · intro c2 hc2
    by_cases he : c2 = c
    · subst he
      rw [← hq]
      obtain ⟨f1, f2, f3, f4, f5, f6, f7, f8, f9, f10, f11, f12, f13, f14⟩ := hF
      have r77 : ∀ s, s < 8 → (k_rk z c2 8 77 (8 * c2 + s) = 0 ↔ y 77 (8 * c2 + s) = 0 ∧ y 78 (8 * c2 + s) = 0) := fun s hs => by
        have e7 : z 77 (8 * c2 + s) = y 77 (8 * c2 + s) := by rw [zo _ _ (by omega), wo _ _ (by omega)]
        have e8 : z 78 (8 * c2 + s) = y 78 (8 * c2 + s) := by rw [zo _ _ (by omega), wo _ _ (by omega)]
        by_cases h8 : z 78 (8 * c2 + s) = 0
        · rw [k_rk, if_neg (fun u => u.1.2.2 h8), if_neg (fun u => u.1.2.2 h8), e7, ← e8]
          exact ⟨fun u => ⟨u, h8⟩, fun u => u.1⟩
        · rw [k_rk, if_pos ⟨⟨by omega, by omega, h8⟩, by omega⟩, ← e8]
          exact ⟨fun u => absurd u (by decide), fun u => absurd u.2 h8⟩
      have r79 : ∀ s, s < 8 → (k_rk z c2 8 79 (8 * c2 + s) = 0 ↔ y 79 (8 * c2 + s) = 0 ∧ y 78 (8 * c2 + s) = 0) := fun s hs => by
        have e7 : z 79 (8 * c2 + s) = y 79 (8 * c2 + s) := by rw [zo _ _ (by omega), wo _ _ (by omega)]
        have e8 : z 78 (8 * c2 + s) = y 78 (8 * c2 + s) := by rw [zo _ _ (by omega), wo _ _ (by omega)]
        by_cases h8 : z 78 (8 * c2 + s) = 0
        · rw [k_rk, if_neg (fun u => u.1.2.2 h8), if_neg (fun u => u.1.2.2 h8), e7, ← e8]
          exact ⟨fun u => ⟨u, h8⟩, fun u => u.1⟩
        · rw [k_rk, if_pos ⟨⟨by omega, by omega, h8⟩, by omega⟩, ← e8]
          exact ⟨fun u => absurd u (by decide), fun u => absurd u.2 h8⟩
      have r78 : ∀ s, s < 8 → k_rk z c2 8 78 (8 * c2 + s) = 0 := fun s hs => by
        by_cases h8 : z 78 (8 * c2 + s) = 0
        · rw [k_rk, if_neg (fun u => u.1.2.2 h8), if_neg (fun u => u.1.2.2 h8)]
          exact h8
        · rw [k_rk, if_neg (by omega), if_pos ⟨⟨by omega, by omega, h8⟩, rfl⟩]
      have r84 : k_rk z c2 8 84 c2 = 0 := by rw [ko _ _ (by omega), zo _ _ (by omega), ← hw, tw_off (by omega), tw_off (by omega), tw_on]
      have r69 : ∀ v, v < 2 → ¬ k_rk z c2 8 69 (2 * c2 + v) = 0 := fun v hv => by
        rw [ko _ _ (by omega), zo _ _ (by omega), ← hw]
        rcases (show v = 0 ∨ v = 1 by omega) with rfl | rfl
        · rw [tw_off (by omega), Nat.add_zero, tw_on]; decide
        · rw [tw_on]; decide
      unfold rF
      rw [Xo q 0 (by omega), Xo q 6 (by omega), Xo q 7 (by omega), X8, Xo q 9 (by omega), Xo q 10 (by omega), X11, X12, X13, X14, Xo q 15 (by omega), X16, Xo q 17 (by omega), Xo q 18 (by omega), all 66 c2 (by omega), all 68 c2 (by omega), r84, all 94 c2 (by omega), all 67 c2 (by omega), all 95 c2 (by omega), ko 96 c2 (by omega), z96]
      refine ⟨f1, f2, f3, rfl, f5, f6, ?_, ?_, ?_, ?_, f11, f12, rfl, fun u => absurd rfl u⟩
      · rw [b_congr (g := fun v => k_rk z c2 8 69 (2 * c2 + v)) (g2 := fun _ => 1) 2 (fun j hj => ⟨fun u => absurd u (r69 j hj), fun u => absurd u (by decide)⟩)]
        decide
      · rw [f8, f9]
        exact b_or (by omega) (fun j hj => r77 j hj)
      · exact ((b_zero (by omega)).mpr (fun s hs => r78 s hs)).symm
      · rw [f10, f9]
        exact b_or (by omega) (fun j hj => r79 j hj)
    · exact rF_ext (fun b => Xo _ _ (by omega)) (fun a b u => all a b (by omega)) (hFa c2 hc2)
  · intro c2 hc2
    by_cases he : c2 = c
    · subst he
      rw [← hq]
      intro j hj
      obtain ⟨e1, e2, e3, e4, e5, e6⟩ := hE j hj
      have e74 : w 74 (32 * c2 + j) = x (q + 7) j := by rw [wo _ _ (by omega)]; exact e5
      by_cases h7 : x (q + 7) j = 0
      · have w7 : w 74 (32 * c2 + j) = 0 := e74.trans h7
        have kn : ∀ a, 70 ≤ a ∧ a ≤ 76 → k_rk z c2 8 a (32 * c2 + j) = y a (32 * c2 + j) := fun a ha => by rw [ko _ _ (by omega), zn a j ha hj w7, wo _ _ (by omega)]
        rw [Xn (q + 2) j (by omega) h7, Xn (q + 3) j (by omega) h7, Xn (q + 4) j (by omega) h7, Xn (q + 5) j (by omega) h7, Xn (q + 7) j (by omega) h7, Xn (q + 9) j (by omega) h7, Xn (q + 10) j (by omega) h7, kn 70 (by omega), kn 71 (by omega), kn 72 (by omega), kn 73 (by omega), kn 74 (by omega), kn 75 (by omega), kn 76 (by omega)]
        exact ⟨e1, e2, e3, e4, e5, e6⟩
      · have w7 : ¬ w 74 (32 * c2 + j) = 0 := by rw [e74]; exact h7
        obtain ⟨x1, x2, x3, x4, x5⟩ := Xh j hj h7
        obtain ⟨y1, y2, y3, y4, y5⟩ := zh j hj w7
        rw [x1, x2, x3, x4, x5, ko 70 _ (by omega), ko 71 _ (by omega), ko 72 _ (by omega), ko 73 _ (by omega), ko 74 _ (by omega), y1, y2, y3, y4, y5, wo 75 _ (by omega)]
        exact ⟨rfl, rfl, fun _ => by decide, fun _ => ⟨(e6 h7).1, rfl⟩, rfl, fun u => absurd rfl u⟩
    · exact rE_ext (fun a b u => Xo a b (by omega)) (fun a b u => all a b (by omega)) (hEa c2 hc2)
  · intro c2 hc2
    by_cases he : c2 = c
    · subst he
      have hS2 := hS c2 hc2
      rw [← hq] at hS2 ⊢
      refine rS_ext (fun a b u => Xo a b (by omega)) (fun b hb u => ?_) (fun a b u => all a b (by omega)) hS2
      by_cases h7 : x (q + 7) b = 0
      · rw [Xn _ _ (by omega) h7]
        exact u
      · rw [(Xh b hb h7).2.1]
        decide
    · exact rS_ext (fun a b u => Xo a b (by omega)) (fun b _ u => by rw [Xo _ _ (by omega)]; exact u) (fun a b u => all a b (by omega)) (hS c2 hc2)
