/-! The calls, part 3: read, arrive, ticket, value, onDisk. -/
theorem p_tick_on {f : tw_S} {tm : Nat} {s v : Int32} (ht : f 6 5 = nI tm) (ht2 : tm < 200) : p_tick f s v = tw_up (tw_up (tw_up f 7 tm s) 8 tm v) 6 5 (nI (tm + 1)) := by
  rw [p_tick, ht, nI_clamp (by omega), nI_1]
theorem p_tick_off {f : tw_S} {a b : Nat} {s v : Int32} (h : ¬ (6 ≤ a ∧ a ≤ 8)) : p_tick f s v a b = f a b := by
  unfold p_tick
  rw [tw_off (by omega), tw_off (by omega), tw_off (by omega)]
/-- a done read's ticket; y1 is a memory of the reference whose ticket was begun before -/
theorem rR_tick1 {x y w : tw_S} {tm : Nat} {v : Int32} (h : rR x y tm) (ht : tm < 200) (hw : ∀ a b, ¬ (a = 61 ∧ b = 39) ∧ ¬ (99 ≤ a ∧ a ≤ 103 ∧ b = tm) → w a b = y a b) (hw2 : w 61 39 = nI (tm + 1)) : rR (p_tick x 1 v) (tw_up (tw_up w 99 tm 1) 100 tm v) (tm + 1) := by
  rw [p_tick_on h.2.2.1.2.1 ht]
  refine rR_addT h ht (fun a b u => by rw [tw_off (by omega), tw_off (by omega), tw_off (by omega)]) (fun a b u => by rw [tw_off (by omega), tw_off (by omega), hw a b u]) tw_on (by rw [tw_off (by omega), tw_off (by omega)]; exact hw2) ?_ ?_ ?_
  · rw [tw_off (by omega), tw_on, tw_off (by omega), tw_off (by omega), tw_on]
  · rw [tw_on, tw_off (by omega), tw_on]
  · intro u
    rw [tw_off (by omega), tw_off (by omega), tw_on] at u
    exact absurd u (by decide)
theorem k_late_cong {f w : tw_S} {c a b : Nat} (hw : ∀ a b, 61 ≤ a → ¬ (99 ≤ a ∧ a ≤ 103) → ¬ (a = 61 ∧ b = 39) → w a b = f a b) (ha : 61 ≤ a) (h : ¬ (99 ≤ a ∧ a ≤ 103) ∧ ¬ (a = 61 ∧ b = 39)) : k_late w c a b = k_late f c a b := by
  unfold k_late
  rw [hw 80 c (by omega) (by omega) (by omega), hw 81 c (by omega) (by omega) (by omega), hw 82 c (by omega) (by omega) (by omega), hw 83 c (by omega) (by omega) (by omega), hw 61 45 (by omega) (by omega) (by omega)]
  split
  · exact hw a b ha (by omega) (by omega)
  · unfold tw_up
    (repeat' split) <;> first | rfl | exact hw a b ha (by omega) (by omega)
theorem k_down_cong {f w : tw_S} {c a b : Nat} (hw : ∀ a b, 61 ≤ a → ¬ (99 ≤ a ∧ a ≤ 103) → ¬ (a = 61 ∧ b = 39) → w a b = f a b) (ha : 61 ≤ a) (h : ¬ (99 ≤ a ∧ a ≤ 103) ∧ ¬ (a = 61 ∧ b = 39)) : k_down w c a b = k_down f c a b := by
  have e := k_late_cong (c := c) hw ha h
  unfold k_down
  generalize (w 61 39).toNatClampNeg = n1
  generalize (f 61 39).toNatClampNeg = n2
  have e2 : k_ref (k_late w c) (nI c) n1 a b = k_ref (k_late f c) (nI c) n2 a b := by
    rw [k_ref, if_neg (by omega), k_ref, if_neg (by omega), e]
  generalize k_ref (k_late w c) (nI c) n1 = r1 at e2
  generalize k_ref (k_late f c) (nI c) n2 = r2 at e2
  have e3 : k_flags r1 c a b = k_flags r2 c a b := by
    unfold k_flags tw_up
    (repeat' split) <;> first | rfl | exact e2
  generalize k_flags r1 c = s1 at e3
  generalize k_flags r2 c = s2 at e3
  unfold k_z3
  (repeat' split) <;> first | rfl | exact e3
theorem rR_tickd {x y : tw_S} {tm c q : Nat} {b : Int32} (h : rR x y tm) (hc : c < 2) (hq : q = 17 + 22 * c) (ht : tm < 200) : rR (p_tick (p_down x q) 2 0) (k_down (k_tick y (nI c) b 0) c) (tm + 1) := by
  have h2 := rR_down hc hq h
  obtain ⟨t1, t2, t3, t4⟩ := h.2.2.1
  have e39 : k_tick y (nI c) b 0 61 39 = nI (tm + 1) := by rw [k_tick_on t3 ht, tw_on]
  have kk : ∀ a i, ¬ (a = 61 ∧ i = 39) ∧ ¬ (99 ≤ a ∧ a ≤ 103 ∧ i = tm) → k_tick y (nI c) b 0 a i = y a i := fun a i u => by rw [k_tick_on t3 ht, tw_off (by omega), tw_off (by omega), tw_off (by omega), tw_off (by omega), tw_off (by omega), tw_off (by omega)]
  have k99 : k_tick y (nI c) b 0 99 tm = 2 := by rw [k_tick_on t3 ht, tw_off (by omega), tw_off (by omega), tw_off (by omega), tw_off (by omega), tw_off (by omega), tw_on]
  have k100 : k_tick y (nI c) b 0 100 tm = 0 := by rw [k_tick_on t3 ht, tw_off (by omega), tw_off (by omega), tw_off (by omega), tw_off (by omega), tw_on]
  rw [p_tick_on h2.2.2.1.2.1 ht]
  refine rR_addT h2 ht (fun a b u => by rw [tw_off (by omega), tw_off (by omega), tw_off (by omega)]) (fun a i u => ?_) tw_on (by rw [k_down_off (by omega)]; exact e39) ?_ ?_ ?_
  · by_cases ha : 61 ≤ a
    · by_cases hT : 99 ≤ a ∧ a ≤ 103
      · by_cases h99 : a = 99
        · subst h99
          rw [k_down_t, k_down_t, e39, t3, nI_clamp (by omega), nI_clamp (by omega), kk 101 i (by omega), kk 99 i (by omega)]
          have : (i < tm + 1) = (i < tm) := by apply propext; omega
          simp only [this]
        · rw [k_down_off (by omega), k_down_off (by omega), kk a i (by omega)]
      · exact k_down_cong (fun a b h1 h2 h3 => kk a b (by omega)) ha (by omega)
    · rw [k_down_off (by omega), k_down_off (by omega), kk a i (by omega)]
  · rw [k_down_t, e39, nI_clamp (by omega), k99, if_neg (fun u => absurd u.2.2 (by decide)), tw_off (by omega), tw_off (by omega), tw_on]
  · rw [k_down_off (by omega), k100, tw_off (by omega), tw_on]
  · intro u
    rw [tw_off (by omega), tw_off (by omega), tw_on] at u
    exact absurd u (by decide)
theorem rR_keep0 {x y : tw_S} {tm c q k : Nat} {v : Int32} (h : rR x y tm) (hc : c < 2) (hq : q = 17 + 22 * c) (hk : k < 32) (hh : x (q + 2) k = 0) : rR (tw_up (tw_up (tw_up (tw_up x (q + 2) k 1) (q + 3) k 0) (q + 4) k v) (q + 5) k 0) (k_keep0 y c k v) tm := by
  have hE := h.2.2.2.2.2.1 c hc
  rw [← hq] at hE
  have hd0 : x (q + 3) k = 0 := Classical.byContradiction (fun u => (hE k hk).2.2.1 u hh)
  refine rR_setE h hc hq (fun a b u => by rw [tw_off (by omega), tw_off (by omega), tw_off (by omega), tw_off (by omega)]) (fun a b u => by rw [k_keep0, tw_off (by omega), tw_off (by omega), tw_off (by omega), tw_off (by omega)]) (Or.inr (fun s _ _ i _ u => ?_)) ?_
  · by_cases he : s * 4 + i = k
    · rw [he] at u
      exact absurd hd0 u
    · rw [tw_off (by omega), tw_off (by omega), tw_off (by omega), tw_off (by omega)]
      exact u
  · intro j hj
    by_cases hjk : j = k
    · subst hjk
      have y70 : k_keep0 y c j v 70 (32 * c + j) = 1 := by unfold k_keep0; rw [tw_off (by omega), tw_off (by omega), tw_off (by omega), tw_on]
      have y71 : k_keep0 y c j v 71 (32 * c + j) = v := by unfold k_keep0; rw [tw_off (by omega), tw_off (by omega), tw_on]
      have y73 : k_keep0 y c j v 73 (32 * c + j) = 0 := by unfold k_keep0; rw [tw_off (by omega), tw_on]
      have y72 : k_keep0 y c j v 72 (32 * c + j) = 0 := by unfold k_keep0; rw [tw_on]
      have yo : ∀ a, 74 ≤ a ∧ a ≤ 76 → k_keep0 y c j v a (32 * c + j) = y a (32 * c + j) := fun a ha => k_keep0_off (by omega)
      have xo : ∀ a, q + 6 ≤ a → tw_up (tw_up (tw_up (tw_up x (q + 2) j 1) (q + 3) j 0) (q + 4) j v) (q + 5) j 0 a j = x a j := fun a ha => by rw [tw_off (by omega), tw_off (by omega), tw_off (by omega), tw_off (by omega)]
      rw [y70, y71, y72, y73, yo 74 (by omega), yo 75 (by omega), yo 76 (by omega), xo (q + 7) (by omega), xo (q + 9) (by omega), xo (q + 10) (by omega)]
      obtain ⟨e1, e2, e3, e4, e5, e6⟩ := hE j hj
      refine ⟨?_, ?_, fun w => ?_, fun _ => ⟨?_, ?_⟩, e5, e6⟩
      · rw [tw_off (by omega), tw_off (by omega), tw_off (by omega), tw_on]
      · rw [tw_off (by omega), tw_off (by omega), tw_on]
      · rw [tw_off (by omega), tw_off (by omega), tw_on] at w
        exact absurd rfl w
      · rw [tw_off (by omega), tw_on]
      · rw [tw_on]
    · have xo : ∀ a, tw_up (tw_up (tw_up (tw_up x (q + 2) k 1) (q + 3) k 0) (q + 4) k v) (q + 5) k 0 a j = x a j := fun a => by rw [tw_off (by omega), tw_off (by omega), tw_off (by omega), tw_off (by omega)]
      have yo : ∀ a, k_keep0 y c k v a (32 * c + j) = y a (32 * c + j) := fun a => by unfold k_keep0; rw [tw_off (by omega), tw_off (by omega), tw_off (by omega), tw_off (by omega)]
      rw [xo, xo, xo, xo, xo, xo, xo, yo, yo, yo, yo, yo, yo, yo]
      exact hE j hj
theorem c_read {fl : Bool} {d e tm : Nat} {f : tw_S} (h : rR f f tm) (x y : Int32) : tS fl (d + 5) 69 [tw_R 0, tw_I x, tw_I y] f (rC fl (e + 4) 124 [tw_I x, tw_I y]) := by
  by_cases hx : ∃ c k, c < 2 ∧ k < 32 ∧ x = nI c ∧ y = nI k ∧ tm < 200
  · obtain ⟨c, k, hc, hk, rfl, rfl, ht⟩ := hx
    obtain ⟨t1, t2, t3, t4⟩ := h.2.2.1
    obtain ⟨lm, l1, l2, l3, l4⟩ := h.2.1
    generalize hq : 17 + 22 * c = q
    have hq2 : q = 17 ∨ q = 39 := by omega
    -- what holds for every memory z of the class behind the call
    have com : ∀ z : tw_S, (∀ a b, 61 ≤ a → z a b = f a b) → ∀ r : tw_S, ∃ g, tw_up z 61 0 0 = g ∧ rR f g tm ∧ (∀ a b, 61 ≤ a → ¬ (a = 61 ∧ b = 0) → g a b = f a b) ∧ (∀ a b, a < 61 → g a b = z a b) := by
      intro z zo _
      exact ⟨_, rfl, rR_g h zo, fun a b u v => by rw [tw_off (by omega), zo a b u], fun a b u => tw_off (by omega)⟩
    refine s_read_c hc hq.symm hk l2 l1 t2 ht (fun u => ⟨_, rfl, ?_⟩) (fun u u2 => ⟨_, rfl, ?_⟩) (fun u u2 u3 => ⟨_, rfl, ?_⟩) (fun u u2 u3 u4 => ⟨_, rfl, ?_⟩) (fun u u2 u3 u4 => ⟨_, rfl, ?_⟩)
    · obtain ⟨g, hg, h2, go, gl⟩ := com (p_tick f 2 0) (fun a b w => p_tick_off (by omega)) f
      have hF := h2.2.2.2.2.1 c hc
      rw [hq] at hF
      have s1 := r_serves hF hk
      have hy := rR_tick2 (a := nI c) (b := nI k) (v := 0) h2 ht
      rw [← p_tick_on t2 ht] at hy
      exact s_m_read_c hg rfl hc hk (by rw [go _ _ (by omega) (by omega)]; exact l3) l1 h2.2.2.1.2.2.1 ht (fun _ => ⟨rfl, tm + 1, rR_glue hy (fun a b w => by rw [k_tick_off (by omega), gl a b w])⟩) (fun w => absurd (s1.mpr w) u) (fun w => absurd (s1.mpr w) u) (fun w => absurd (s1.mpr w) u) (fun w => absurd (s1.mpr w) u)
    · obtain ⟨g, hg, h2, go, gl⟩ := com (p_tick (p_down f q) 2 0) (fun a b w => by rw [p_tick_off (by omega), p_down_off (by omega)]) f
      have hF := h2.2.2.2.2.1 c hc
      rw [hq] at hF
      have s1 := r_serves hF hk
      obtain ⟨d1, d2, d3, d4⟩ := h2.1
      have hke : g 67 c = f q 10 := hF.2.2.2.2.2.1
      have hy := rR_tickd (b := nI k) h2 hc hq.symm ht
      exact s_m_read_c hg rfl hc hk (by rw [go _ _ (by omega) (by omega)]; exact l3) l1 h2.2.2.1.2.2.1 ht (fun w => absurd (s1.mp u) w) (fun _ _ => ⟨rfl, tm + 1, rR_glue hy (fun a b w => by rw [k_down_off (by omega), k_tick_off (by omega), gl a b w])⟩) (fun _ w => absurd (by rw [d1, d2, hke] at w; exact w) u2) (fun _ w => absurd (by rw [d1, d2, hke] at w; exact w) u2) (fun _ w => absurd (by rw [d1, d2, hke] at w; exact w) u2)
    · obtain ⟨g, hg, h2, go, gl⟩ := com (p_tick f 1 (f (q + 4) k)) (fun a b w => by rw [p_tick_off (by omega)]) f
      have hF := h2.2.2.2.2.1 c hc
      have hE := h2.2.2.2.2.2.1 c hc k hk
      rw [hq] at hF hE
      have s1 := r_serves hF hk
      obtain ⟨d1, d2, d3, d4⟩ := h2.1
      have hke : g 67 c = f q 10 := hF.2.2.2.2.2.1
      have hy := rR_tick1 (w := k_tick g (nI c) (nI k) 0) (v := f (q + 4) k) h2 ht (fun a b u => by rw [k_tick_on h2.2.2.1.2.2.1 ht, tw_off (by omega), tw_off (by omega), tw_off (by omega), tw_off (by omega), tw_off (by omega), tw_off (by omega)]) (by rw [k_tick_on h2.2.2.1.2.2.1 ht, tw_on])
      refine s_m_read_c hg rfl hc hk (by rw [go _ _ (by omega) (by omega)]; exact l3) l1 h2.2.2.1.2.2.1 ht (fun w => absurd (s1.mp u) w) (fun _ w => absurd (by rw [d1, d2, hke]; exact u2) w) (fun _ _ _ => ⟨rfl, tm + 1, ?_⟩) (fun _ _ w => absurd (hE.1.symm.trans w) u3) (fun _ _ w => absurd (hE.1.symm.trans w) u3)
      rw [(hE.2.2.2.1 u3).1]
      exact rR_glue hy (fun a b w => by rw [tw_off (by omega), tw_off (by omega), k_tick_off (by omega), gl a b w])
    · obtain ⟨g, hg, h2, go, gl⟩ := com (p_tick f 2 0) (fun a b w => p_tick_off (by omega)) f
      have hF := h2.2.2.2.2.1 c hc
      have hE := h2.2.2.2.2.2.1 c hc k hk
      rw [hq] at hF hE
      have s1 := r_serves hF hk
      obtain ⟨d1, d2, d3, d4⟩ := h2.1
      have hke : g 67 c = f q 10 := hF.2.2.2.2.2.1
      have hy := rR_tick2 (a := nI c) (b := nI k) (v := 0) h2 ht
      rw [← p_tick_on t2 ht] at hy
      exact s_m_read_c hg rfl hc hk (by rw [go _ _ (by omega) (by omega)]; exact l3) l1 h2.2.2.1.2.2.1 ht (fun w => absurd (s1.mp u) w) (fun _ w => absurd (by rw [d1, d2, hke]; exact u2) w) (fun _ _ w => absurd (hE.1.trans u3) w) (fun _ _ _ _ => ⟨rfl, tm + 1, rR_glue hy (fun a b w => by rw [k_tick_off (by omega), gl a b w])⟩) (fun _ _ _ w => absurd (by rw [d4]; exact u4) w)
    · generalize hv : p_what (f 5) (f 4) k = v
      obtain ⟨g, hg, h2, go, gl⟩ := com (p_tick (tw_up (tw_up (tw_up (tw_up f (q + 2) k 1) (q + 3) k 0) (q + 4) k v) (q + 5) k 0) 1 v) (fun a b w => by rw [p_tick_off (by omega), tw_off (by omega), tw_off (by omega), tw_off (by omega), tw_off (by omega)]) f
      have hF := h2.2.2.2.2.1 c hc
      have hE := h2.2.2.2.2.2.1 c hc k hk
      rw [hq] at hF hE
      have s1 := r_serves hF hk
      obtain ⟨d1, d2, d3, d4⟩ := h2.1
      have hke : g 67 c = f q 10 := hF.2.2.2.2.2.1
      have h3 := rR_keep0 (v := v) h2 hc hq.symm hk u3
      have hy := rR_tick1 (w := k_keep0 (k_tick g (nI c) (nI k) 0) c k v) (v := v) h3 ht (fun a b u => ?_) (by rw [k_keep0_off (by omega), k_tick_on h2.2.2.1.2.2.1 ht, tw_on])
      · refine s_m_read_c hg rfl hc hk (by rw [go _ _ (by omega) (by omega)]; exact l3) l1 h2.2.2.1.2.2.1 ht (fun w => absurd (s1.mp u) w) (fun _ w => absurd (by rw [d1, d2, hke]; exact u2) w) (fun _ _ w => absurd (hE.1.trans u3) w) (fun _ _ _ w => absurd (by rw [d4] at w; exact w) u4) (fun _ _ _ _ => ⟨rfl, tm + 1, ?_⟩)
        rw [d4, d3, hv]
        exact rR_glue hy (fun a b w => by rw [tw_off (by omega), tw_off (by omega), k_keep0_off (by omega), k_tick_off (by omega), gl a b w])
      · unfold k_keep0 tw_up
        (repeat' split) <;> first | rfl | (rw [k_tick_on h2.2.2.1.2.2.1 ht, tw_off (by omega), tw_off (by omega), tw_off (by omega), tw_off (by omega), tw_off (by omega), tw_off (by omega)])
  · exact c_read_bad h hx
/-! arrive -/
theorem rI_pop {x y : tw_S} {tm c q a m : Nat} (hc : c < 2) (hI : rI x y tm c q) (ha : x (q + 11) 5 = nI a) (ha2 : a < 40) (hm : x (q + 11) 6 = nI m) (hm2 : m ≤ 40) (hm0 : 0 < m) : rI (p_take x q a m) (k_pop y c m (5 * (m - 1))) tm c q := by
  obtain ⟨a2, m2, h1, h2, h3, h4, h5, h6⟩ := hI
  have e1 := (nI_eq (by omega) (by omega)).mp (ha.symm.trans h3)
  have e2 := (nI_eq (by omega) (by omega)).mp (hm.symm.trans h4)
  subst e1 e2
  refine ⟨(a + 1) % 40, m - 1, by omega, by omega, ?_, ?_, ?_, fun i hi => ?_⟩
  · unfold p_take
    rw [tw_off (by omega), tw_on]
  · unfold p_take
    rw [tw_on]
  · rw [k_pop, if_pos ⟨rfl, rfl⟩]
  · have xo : ∀ z b, q + 12 ≤ z → p_take x q a m z b = x z b := fun z b hz => by unfold p_take; rw [tw_off (by omega), tw_off (by omega)]
    have yo : ∀ e, e < 5 → k_pop y c m (5 * (m - 1)) 97 (200 * c + 5 * i + e) = y 97 (200 * c + 5 * (i + 1) + e) := fun e he => by
      rw [k_pop, if_neg (by omega), if_pos (by omega)]
      exact congrArg _ (by omega)
    have es : ((a + 1) % 40 + i) % 40 = (a + (i + 1)) % 40 := by omega
    have y0 := yo 0 (by omega)
    rw [Nat.add_zero, Nat.add_zero] at y0
    rw [xo _ _ (by omega), xo _ _ (by omega), xo _ _ (by omega), xo _ _ (by omega), xo _ _ (by omega), y0, yo 1 (by omega), yo 2 (by omega), yo 3 (by omega), yo 4 (by omega), es]
    exact h6 (i + 1) (by omega)
theorem k_pop_off {f : tw_S} {c m e a b : Nat} (h : ¬ (a = 98 ∧ b = c) ∧ ¬ (a = 97 ∧ 200 * c ≤ b ∧ b < 200 * c + e)) : k_pop f c m e a b = f a b := by
  rw [k_pop, if_neg (by omega), if_neg (by omega)]
theorem rR_pop {x y : tw_S} {tm c q a m : Nat} (h : rR x y tm) (hc : c < 2) (hq : q = 17 + 22 * c) (ha : x (q + 11) 5 = nI a) (ha2 : a < 40) (hm : x (q + 11) 6 = nI m) (hm2 : m ≤ 40) (hm0 : 0 < m) : rR (p_take x q a m) (k_pop y c m (5 * (m - 1))) tm := by
  have hI := h.2.2.2.2.2.2.1 c hc
  rw [← hq] at hI
  exact rR_setI h hc hq (fun a b u => by unfold p_take; rw [tw_off (by omega), tw_off (by omega)]) (fun a b u => k_pop_off (by omega)) (rI_pop hc hI ha ha2 hm hm2 hm0)
theorem rR_newer {x y : tw_S} {tm c q k : Nat} {v w : Int32} (h : rR x y tm) (hc : c < 2) (hq : q = 17 + 22 * c) (hk : k < 32) : rR (p_newer x q k v w) (k_newer y c k v w) tm := by
  have hE := h.2.2.2.2.2.1 c hc
  rw [← hq] at hE
  have hEk := hE k hk
  unfold p_newer k_newer
  rw [hEk.2.2.2.2.1]
  have hcond : (x (q + 7) k = 0 ∨ ¬ w ≤ x (q + 10) k) ↔ (x (q + 7) k = 0 ∨ ¬ w ≤ y 76 (32 * c + k)) := by
    by_cases h0 : x (q + 7) k = 0
    · simp [h0]
    · rw [(hEk.2.2.2.2.2 h0).2]
  by_cases hn : x (q + 7) k = 0 ∨ ¬ w ≤ x (q + 10) k
  · rw [if_pos hn, if_pos (hcond.mp hn)]
    refine rR_setE h hc hq (fun a b u => by rw [tw_off (by omega), tw_off (by omega), tw_off (by omega), tw_off (by omega)]) (fun a b u => by rw [tw_off (by omega), tw_off (by omega), tw_off (by omega)]) (Or.inr (fun s _ _ i _ u => by rw [tw_off (by omega), tw_off (by omega), tw_off (by omega), tw_off (by omega)]; exact u)) ?_
    intro j hj
    have xo : ∀ a, a ≤ q + 5 → tw_up (tw_up (tw_up (tw_up x (q + 7) k 1) (q + 8) k 0) (q + 9) k v) (q + 10) k w a j = x a j := fun a ha => by rw [tw_off (by omega), tw_off (by omega), tw_off (by omega), tw_off (by omega)]
    have yo : ∀ a, a ≤ 73 → tw_up (tw_up (tw_up y 74 (32 * c + k) 1) 75 (32 * c + k) v) 76 (32 * c + k) w a (32 * c + j) = y a (32 * c + j) := fun a ha => by rw [tw_off (by omega), tw_off (by omega), tw_off (by omega)]
    rw [xo (q + 2) (by omega), xo (q + 3) (by omega), xo (q + 4) (by omega), xo (q + 5) (by omega), yo 70 (by omega), yo 71 (by omega), yo 72 (by omega), yo 73 (by omega)]
    obtain ⟨e1, e2, e3, e4, e5, e6⟩ := hE j hj
    refine ⟨e1, e2, e3, e4, ?_⟩
    by_cases hjk : j = k
    · subst hjk
      refine ⟨?_, fun _ => ⟨?_, ?_⟩⟩
      · rw [tw_off (by omega), tw_off (by omega), tw_on, tw_off (by omega), tw_off (by omega), tw_off (by omega), tw_on]
      · rw [tw_off (by omega), tw_on, tw_off (by omega), tw_on]
      · rw [tw_on, tw_on]
    · have xo2 : ∀ a, tw_up (tw_up (tw_up (tw_up x (q + 7) k 1) (q + 8) k 0) (q + 9) k v) (q + 10) k w a j = x a j := fun a => by rw [tw_off (by omega), tw_off (by omega), tw_off (by omega), tw_off (by omega)]
      have yo2 : ∀ a, tw_up (tw_up (tw_up y 74 (32 * c + k) 1) 75 (32 * c + k) v) 76 (32 * c + k) w a (32 * c + j) = y a (32 * c + j) := fun a => by rw [tw_off (by omega), tw_off (by omega), tw_off (by omega)]
      rw [xo2, xo2, xo2, yo2, yo2, yo2]
      exact ⟨e5, e6⟩
  · rw [if_neg hn, if_neg (fun u => hn (hcond.mpr u))]
    exact h
theorem rR_dropv {x y : tw_S} {tm c q k : Nat} {w : Int32} (h : rR x y tm) (hc : c < 2) (hq : q = 17 + 22 * c) (hk : k < 32) : rR (p_dropv x q k w) (k_dropv y c k w) tm := by
  have hE := h.2.2.2.2.2.1 c hc
  rw [← hq] at hE
  have hEk := hE k hk
  unfold p_dropv k_dropv
  rw [hEk.2.2.2.2.1]
  have hcond : (¬ x (q + 7) k = 0 ∧ x (q + 10) k = w) ↔ (¬ x (q + 7) k = 0 ∧ y 76 (32 * c + k) = w) := by
    by_cases h0 : x (q + 7) k = 0
    · simp [h0]
    · rw [(hEk.2.2.2.2.2 h0).2]
  by_cases hn : ¬ x (q + 7) k = 0 ∧ x (q + 10) k = w
  · rw [if_pos hn, if_pos (hcond.mp hn)]
    refine rR_setE h hc hq (fun a b u => by rw [tw_off (by omega), tw_off (by omega)]) (fun a b u => by rw [tw_off (by omega)]) (Or.inr (fun s _ _ i _ u => by rw [tw_off (by omega), tw_off (by omega)]; exact u)) ?_
    intro j hj
    have xo : ∀ a, a ≤ q + 6 ∨ q + 9 ≤ a → tw_up (tw_up x (q + 7) k 0) (q + 8) k 0 a j = x a j := fun a ha => by rw [tw_off (by omega), tw_off (by omega)]
    have yo : ∀ a, a ≠ 74 → tw_up y 74 (32 * c + k) 0 a (32 * c + j) = y a (32 * c + j) := fun a ha => tw_off (by omega)
    rw [xo (q + 2) (by omega), xo (q + 3) (by omega), xo (q + 4) (by omega), xo (q + 5) (by omega), xo (q + 9) (by omega), xo (q + 10) (by omega), yo 70 (by omega), yo 71 (by omega), yo 72 (by omega), yo 73 (by omega), yo 75 (by omega), yo 76 (by omega)]
    obtain ⟨e1, e2, e3, e4, e5, e6⟩ := hE j hj
    refine ⟨e1, e2, e3, e4, ?_⟩
    by_cases hjk : j = k
    · subst hjk
      have z : tw_up (tw_up x (q + 7) j 0) (q + 8) j 0 (q + 7) j = 0 := by rw [tw_off (by omega), tw_on]
      rw [z, tw_on]
      exact ⟨rfl, fun u => absurd rfl u⟩
    · rw [tw_off (by omega), tw_off (by omega), tw_off (by omega)]
      exact ⟨e5, e6⟩
  · rw [if_neg hn, if_neg (fun u => hn (hcond.mpr u))]
    exact h
theorem rR_got {x y : tw_S} {tm j : Nat} (h : rR x y tm) (hj : j < tm) (h0 : x 7 j = 0) : rR (tw_up x 7 j 1) (tw_up y 99 j 1) tm := by
  refine rR_setT h (Nat.le_refl _) (fun a b u => tw_off (by omega)) (fun a b u => tw_off (by omega)) ?_
  obtain ⟨t1, t2, t3, t4⟩ := h.2.2.1
  refine ⟨t1, by rw [tw_off (by omega)]; exact t2, by rw [tw_off (by omega)]; exact t3, fun t ht => ?_⟩
  obtain ⟨a1, a2, a3⟩ := t4 t ht
  have xo : ∀ z, z ≠ 7 → tw_up x 7 j 1 z t = x z t := fun z hz => tw_off (by omega)
  have yo : ∀ z, z ≠ 99 → tw_up y 99 j 1 z t = y z t := fun z hz => tw_off (by omega)
  rw [xo 8 (by omega), xo 9 (by omega), xo 10 (by omega), xo 11 (by omega), yo 100 (by omega), yo 101 (by omega), yo 102 (by omega), yo 103 (by omega)]
  by_cases he : t = j
  · subst he
    rw [tw_on, tw_on]
    exact ⟨rfl, a2, fun u => absurd u (by decide)⟩
  · rw [tw_off (by omega), tw_off (by omega)]
    exact ⟨a1, a2, a3⟩
theorem rR_remark {x y : tw_S} {tm c q s : Nat} (h : rR x y tm) (hc : c < 2) (hq : q = 17 + 22 * c) (hs : s < 8) : rR (tw_up x q 13 (x q 13 ||| 1 <<< (nI s &&& 31))) (tw_up y 78 (8 * c + s) 1) tm := by
  refine rR_setF h hc hq (fun a b u => tw_off (by omega)) (fun a b u => tw_off (by omega)) ?_
  have hF := h.2.2.2.2.1 c hc
  rw [← hq] at hF
  obtain ⟨f1, f2, f3, f4, f5, f6, f7, f8, f9, f10, f11, f12, f13, f14⟩ := hF
  refine ⟨?_, ?_, ?_, ?_, ?_, ?_, ?_, ?_, ?_, ?_, ?_, ?_, ?_, ?_⟩ <;> try (first | assumption | (simp only [tw_up, eq_self, Nat.reduceEqDiff, true_and, and_true, false_and, and_false, if_true, if_false, reduceIte] <;> assumption))
  rw [tw_on, f9, b_set (by omega) hs]
  refine b_congr 8 (fun j hj => ?_)
  unfold tw_up
  by_cases he : j = s
  · subst he
    simp
  · rw [if_neg he, if_neg (by omega)]
theorem rR_unremark {x y : tw_S} {tm c q s : Nat} (h : rR x y tm) (hc : c < 2) (hq : q = 17 + 22 * c) (hs : s < 8) : rR (tw_up x q 13 (x q 13 &&& (1 <<< (nI s &&& 31) ^^^ -1))) (tw_up y 78 (8 * c + s) 0) tm := by
  refine rR_setF h hc hq (fun a b u => tw_off (by omega)) (fun a b u => tw_off (by omega)) ?_
  have hF := h.2.2.2.2.1 c hc
  rw [← hq] at hF
  obtain ⟨f1, f2, f3, f4, f5, f6, f7, f8, f9, f10, f11, f12, f13, f14⟩ := hF
  refine ⟨?_, ?_, ?_, ?_, ?_, ?_, ?_, ?_, ?_, ?_, ?_, ?_, ?_, ?_⟩ <;> try (first | assumption | (simp only [tw_up, eq_self, Nat.reduceEqDiff, true_and, and_true, false_and, and_false, if_true, if_false, reduceIte] <;> assumption))
  rw [tw_on, f9, b_clr (by omega) hs]
  refine b_congr 8 (fun j hj => ?_)
  unfold tw_up
  by_cases he : j = s
  · subst he
    simp
  · rw [if_neg he, if_neg (by omega)]
theorem rR_heard {x y : tw_S} {tm c q : Nat} (h : rR x y tm) (hc : c < 2) (hq : q = 17 + 22 * c) : rR (tw_up x q 15 0) (tw_up y 95 c 0) tm := by
  refine rR_setF h hc hq (fun a b u => tw_off (by omega)) (fun a b u => tw_off (by omega)) ?_
  have hF := h.2.2.2.2.1 c hc
  rw [← hq] at hF
  obtain ⟨f1, f2, f3, f4, f5, f6, f7, f8, f9, f10, f11, f12, f13, f14⟩ := hF
  refine ⟨?_, ?_, ?_, ?_, ?_, ?_, ?_, ?_, ?_, ?_, ?_, ?_, ?_, ?_⟩ <;> try (first | assumption | (simp only [tw_up, eq_self, Nat.reduceEqDiff, true_and, and_true, false_and, and_false, if_true, if_false, reduceIte] <;> assumption))
  intro _
  exact ⟨0, by omega, by rw [tw_on]; rfl⟩
theorem c_arrive {fl : Bool} {d e tm : Nat} {f : tw_S} (h : rR f f tm) (x : Int32) : tS fl (d + 4) 85 [tw_R 0, tw_I x] f (rC fl (e + 2) 139 [tw_I x]) := by
  have hC := h.2.2.2.1
  have hC2 : tw_up f 61 0 0 61 38 = f 0 5 := by rw [tw_off (by omega)]; exact hC
  obtain g | g | ⟨c, hc, rfl⟩ := pk_ix x (n := 2) (by omega)
  · exact s_arrive_x (Or.inl (pk_not01 (Or.inl g))) ⟨_, rfl, s_m_arrive_x rfl (Or.inl (Or.inl g)) ⟨rfl, tm, rR_same h⟩⟩
  · exact s_arrive_x (Or.inl (pk_not01 (Or.inr g))) ⟨_, rfl, s_m_arrive_x rfl (Or.inl (Or.inr g)) ⟨rfl, tm, rR_same h⟩⟩
  · by_cases h0 : f 0 5 = 0
    · generalize hq : 17 + 22 * c = q
      have hq2 : q = 17 ∨ q = 39 := by omega
      obtain ⟨t1, t2, t3, t4⟩ := h.2.2.1
      have hI := h.2.2.2.2.2.2.1 c hc
      rw [hq] at hI
      obtain ⟨a, m, i1, i2, i3, i4, i5, i6⟩ := hI
      have hF := h.2.2.2.2.1 c hc
      rw [hq] at hF
      have hIo := h.2.2.2.2.2.2.1 (1 - c) (by omega)
      rw [show 17 + 22 * (1 - c) = 56 - q by omega] at hIo
      -- what holds for every memory z of the class behind the call
      have com : ∀ z : tw_S, (∀ a b, 61 ≤ a → z a b = f a b) → ∃ g, tw_up z 61 0 0 = g ∧ rR f g tm ∧ (∀ a b, 61 ≤ a → ¬ (a = 61 ∧ b = 0) → g a b = f a b) ∧ (∀ a b, a < 61 → g a b = z a b) := by
        intro z zo
        exact ⟨_, rfl, rR_g h zo, fun a b u v => by rw [tw_off (by omega), zo a b u], fun a b u => tw_off (by omega)⟩
      have tko : ∀ a2 b, ¬ (a2 = q + 11) → p_take f q a m a2 b = f a2 b := fun a2 b u => by unfold p_take; rw [tw_off (by omega), tw_off (by omega)]
      refine s_arrive_c hc hq.symm h0 i3 i1 i4 i2 (fun u => ⟨_, rfl, ?_⟩) (fun u u2 => ⟨_, rfl, ?_⟩) (fun u u2 => ?_)
      · have h2 := rR_g0 h
        refine s_m_arrive_c rfl rfl hc (by rw [tw_off (by omega), hC]; exact h0) (by rw [tw_off (by omega)]; exact i5) i2 ?_ (fun _ => ⟨rfl, tm, rR_same h⟩) (fun w => by omega) (fun w => by omega)
        obtain ⟨mm, b1, b2⟩ := r_kbox hIo
        exact ⟨mm, by rw [k_pop_off (by omega), tw_off (by omega)]; exact b1, b2⟩
      · obtain ⟨g, hg, h2, go, gl⟩ := com (p_take f q a m) (fun a b w => tko _ _ (by omega))
        have hF2 := h2.2.2.2.2.1 c hc
        rw [hq] at hF2
        have hy := rR_pop h2 hc hq.symm i3 i1 i4 i2 u
        have hIo2 := hy.2.2.2.2.2.2.1 (1 - c) (by omega)
        have k0 : g 97 (200 * c) = f (q + 12) a := by
          have := (i6 0 u).1
          rw [show (a + 0) % 40 = a by omega] at this
          rw [go _ _ (by omega) (by omega)]
          exact this.symm
        exact s_m_arrive_c hg rfl hc (by rw [go _ _ (by omega) (by omega), hC]; exact h0) (by rw [go _ _ (by omega) (by omega)]; exact i5) i2 (r_kbox hIo2) (fun w => by omega) (fun _ _ => ⟨by rw [k0], tm, rR_glue hy (fun a b w => by rw [k_pop_off (by omega), gl a b w])⟩) (fun _ w => absurd (by rw [hF2.2.1, hF2.2.2.1] at w; exact w) u2)
      · -- the message is noticed
        have hM := i6 0 u
        rw [show (a + 0) % 40 = a by omega] at hM
        have M0 : 200 * c + 5 * 0 = 200 * c := by omega
        rw [M0] at hM
        have r12 : p_take f q a m (q + 12) a = f (q + 12) a := tko _ _ (by omega)
        have r13 : p_take f q a m (q + 13) a = f (q + 13) a := tko _ _ (by omega)
        have r14 : p_take f q a m (q + 14) a = f (q + 14) a := tko _ _ (by omega)
        have r15 : p_take f q a m (q + 15) a = f (q + 15) a := tko _ _ (by omega)
        have r16 : p_take f q a m (q + 16) a = f (q + 16) a := tko _ _ (by omega)
        have rn : p_take f q a m q 0 = if q = 17 then 0 else 1 := by rw [tko _ _ (by omega)]; exact r_num hc hq.symm hF
        have rb : p_box (p_take f q a m) (56 - q) := by
          obtain ⟨a2, m2, b1, b2, b3, b4⟩ := r_box hIo
          exact ⟨a2, m2, by rw [tko _ _ (by omega)]; exact b1, b2, by rw [tko _ _ (by omega)]; exact b3, b4⟩
        have rt : p_take f q a m 6 5 = nI tm := by rw [tko _ _ (by omega)]; exact t2
        -- the reference's side, for the memory z
        have ref : ∀ z : tw_S, (∀ a b, 61 ≤ a → z a b = f a b) → ∀ k : Nat, k < 6 → f (q + 12) a = nI k → (∀ g y : tw_S, rR (p_take f q a m) y tm → (∀ a b, 61 ≤ a → ¬ (a = 61 ∧ b = 0) → g a b = f a b) → (∀ a b, a < 61 → g a b = z a b) → (∀ a b, a < 61 → y a b = g a b) → (∀ t, y 99 t = g 99 t) →
            (k = 0 → ∃ b, g 97 (200 * c + 1) = nI b ∧ b < 32 ∧ ∃ tm, rR (k_send (k_newer y c b (g 97 (200 * c + 2)) (g 97 (200 * c + 3))) c 1 (g 97 (200 * c + 4)) 0 0 0) (k_send (k_newer y c b (g 97 (200 * c + 2)) (g 97 (200 * c + 3))) c 1 (g 97 (200 * c + 4)) 0 0 0) tm) ∧ (k = 1 → ∃ t, g 97 (200 * c + 1) = nI t ∧ t < 200 ∧ ∃ tm, rR (k_got y t) (k_got y t) tm) ∧ (k = 2 → ∃ b, g 97 (200 * c + 1) = nI b ∧ b < 32 ∧ ∃ tm, rR (k_dropv y c b (g 97 (200 * c + 2))) (k_dropv y c b (g 97 (200 * c + 2))) tm) ∧ (k = 3 → ∃ b, g 97 (200 * c + 1) = nI b ∧ b < 8 ∧ ∃ tm, rR (tw_up y 78 (8 * c + b) 1) (tw_up y 78 (8 * c + b) 1) tm) ∧ (k = 4 → ∃ b, g 97 (200 * c + 1) = nI b ∧ b < 8 ∧ ∃ tm, rR (tw_up y 78 (8 * c + b) 0) (tw_up y 78 (8 * c + b) 0) tm) ∧ (k = 5 → ∃ tm, rR (tw_up y 95 c 0) (tw_up y 95 c 0) tm)) → tS fl (e + 2) 139 [tw_R 61, tw_I (nI c)] z (rQ (f (q + 12) a)) := by
          intro z zo k hk hk2 hyp
          obtain ⟨g, hg, h2, go, gl⟩ := com z zo
          have hF2 := h2.2.2.2.2.1 c hc
          rw [hq] at hF2
          have hy := rR_pop h2 hc hq.symm i3 i1 i4 i2 u
          have hIo2 := hy.2.2.2.2.2.2.1 (1 - c) (by omega)
          obtain ⟨p0, p1, p2, p3, p4, p5⟩ := hyp g _ hy go gl (fun a b w => k_pop_off (by omega)) (fun t => k_pop_off (by omega))
          have k0 : g 97 (200 * c) = f (q + 12) a := by
            rw [go _ _ (by omega) (by omega)]
            exact hM.1.symm
          refine s_m_arrive_c hg rfl hc (by rw [go _ _ (by omega) (by omega), hC]; exact h0) (by rw [go _ _ (by omega) (by omega)]; exact i5) i2 (r_kbox hIo2) (fun w => by omega) (fun _ w => absurd (by rw [hF2.2.1, hF2.2.2.1]; exact u2) w) (fun _ _ => ⟨k, by rw [k0]; exact hk2, hk, ?_⟩)
          rw [k0]
          refine ⟨fun w => ?_, fun w => ?_, fun w => ?_, fun w => ?_, fun w => ?_, fun w => ⟨rfl, p5 w⟩⟩
          · obtain ⟨b, b1, b2, b3⟩ := p0 w
            exact ⟨b, b1, b2, rfl, b3⟩
          · obtain ⟨b, b1, b2, b3⟩ := p1 w
            exact ⟨b, b1, b2, rfl, b3⟩
          · obtain ⟨b, b1, b2, b3⟩ := p2 w
            exact ⟨b, b1, b2, rfl, b3⟩
          · obtain ⟨b, b1, b2, b3⟩ := p3 w
            exact ⟨b, b1, b2, rfl, b3⟩
          · obtain ⟨b, b1, b2, b3⟩ := p4 w
            exact ⟨b, b1, b2, rfl, b3⟩
        rcases hM.2 with ⟨k0, ⟨b, b1, b2⟩, m1, m2, m3, m4, j, j1, j2⟩ | ⟨k1, m1, j, j1, j2⟩ | ⟨k2, ⟨b, b1, b2⟩, m1, m2⟩ | ⟨k3, ⟨b, b1, b2⟩, m1⟩ | k5
        · rw [k0] at ref ⊢
          refine s_notice0 hq2 rn rb i1 (by rw [r13]; exact b2) b1 ⟨rfl, _, rfl, ?_⟩
          rw [r14, r15, r16]
          refine ref _ (fun a b w => by rw [p_send_off (by omega), p_newer_off (by omega), tko _ _ (by omega)]) 0 (by omega) rfl (fun g y hy go gl yl _ => ⟨fun _ => ⟨b, by rw [go _ _ (by omega) (by omega), ← m1]; exact b2, b1, tm, ?_⟩, fun w => by omega, fun w => by omega, fun w => by omega, fun w => by omega, fun w => by omega⟩)
          rw [go 97 (200 * c + 2) (by omega) (by omega), go 97 (200 * c + 3) (by omega) (by omega), go 97 (200 * c + 4) (by omega) (by omega), ← m2, ← m3, ← m4]
          have hyy := rR_send (qt := 56 - q) (rR_newer (v := f (q + 14) a) (w := f (q + 15) a) hy hc hq.symm b1) hc (by omega) (k := 1) (p := 0) (v := 0) (w := 0) (t := f (q + 16) a) (s := 1) (a := f (q + 16) a) (b := 0) (e := 0) (g := 0) ⟨rfl, Or.inr (Or.inl ⟨rfl, rfl, j, j1, j2⟩)⟩
          refine rR_glue hyy (fun a2 b2 w => ?_)
          rw [k_send_off (by omega)]
          unfold k_newer
          split
          · rw [tw_off (by omega), tw_off (by omega), tw_off (by omega), yl _ _ w, gl _ _ w]
          · rw [yl _ _ w, gl _ _ w]
        · rw [k1] at ref ⊢
          refine s_notice1 hq2 i1 rt t1 (fun j2' hj' he h7 => ⟨rfl, _, rfl, ?_⟩) (fun hn => ⟨rfl, _, rfl, ?_⟩)
          · rw [r16, j2] at he
            have := (nI_eq (by omega) (by omega)).mp he
            subst this
            refine ref _ (fun a b w => by rw [tw_off (by omega), tko _ _ (by omega)]) 1 (by omega) rfl (fun g y hy go gl yl y9 => ⟨fun w => by omega, fun _ => ⟨j, by rw [go _ _ (by omega) (by omega), ← m1]; exact j2, by omega, tm, ?_⟩, fun w => by omega, fun w => by omega, fun w => by omega, fun w => by omega⟩)
            have e9 : y 99 j = 0 := by
              rw [y9, go _ _ (by omega) (by omega), (t4 j j1).1]
              rw [tko _ _ (by omega)] at h7
              exact h7
            rw [k_got, if_pos e9]
            exact rR_glue (rR_got hy j1 h7) (fun a2 b2 w => by rw [tw_off (by omega), yl _ _ w, gl _ _ w])
          · have h7 := hn j j1 (by rw [r16]; exact j2)
            refine ref _ (fun a b w => by rw [tko _ _ (by omega)]) 1 (by omega) rfl (fun g y hy go gl yl y9 => ⟨fun w => by omega, fun _ => ⟨j, by rw [go _ _ (by omega) (by omega), ← m1]; exact j2, by omega, tm, ?_⟩, fun w => by omega, fun w => by omega, fun w => by omega, fun w => by omega⟩)
            have e9 : ¬ y 99 j = 0 := by
              rw [y9, go _ _ (by omega) (by omega), (t4 j j1).1]
              rw [tko _ _ (by omega)] at h7
              exact h7
            rw [k_got, if_neg e9]
            exact rR_glue hy (fun a2 b2 w => by rw [yl _ _ w, gl _ _ w])
        · rw [k2] at ref ⊢
          refine s_notice2 hq2 i1 (by rw [r13]; exact b2) b1 ⟨rfl, _, rfl, ?_⟩
          rw [r15]
          refine ref _ (fun a b w => by unfold p_dropv; split; rw [tw_off (by omega), tw_off (by omega), tko _ _ (by omega)]; rw [tko _ _ (by omega)]) 2 (by omega) rfl (fun g y hy go gl yl _ => ⟨fun w => by omega, fun w => by omega, fun _ => ⟨b, by rw [go _ _ (by omega) (by omega), ← m1]; exact b2, b1, tm, ?_⟩, fun w => by omega, fun w => by omega, fun w => by omega⟩)
          rw [go 97 (200 * c + 2) (by omega) (by omega), ← m2]
          refine rR_glue (rR_dropv hy hc hq.symm b1) (fun a2 b2 w => ?_)
          unfold k_dropv
          split
          · rw [tw_off (by omega), yl _ _ w, gl _ _ w]
          · rw [yl _ _ w, gl _ _ w]
        · rcases k3 with k3 | k3
          · rw [k3] at ref ⊢
            refine s_notice3 hq2 i1 ⟨rfl, _, rfl, ?_⟩
            rw [r13, b2]
            refine ref _ (fun a b w => by rw [tw_off (by omega), tko _ _ (by omega)]) 3 (by omega) rfl (fun g y hy go gl yl _ => ⟨fun w => by omega, fun w => by omega, fun w => by omega, fun _ => ⟨b, by rw [go _ _ (by omega) (by omega), ← m1]; exact b2, b1, tm, ?_⟩, fun w => by omega, fun w => by omega⟩)
            exact rR_glue (rR_remark hy hc hq.symm b1) (fun a2 b2 w => by rw [tw_off (by omega), yl _ _ w, gl _ _ w])
          · rw [k3] at ref ⊢
            refine s_notice4 hq2 i1 ⟨rfl, _, rfl, ?_⟩
            rw [r13, b2]
            refine ref _ (fun a b w => by rw [tw_off (by omega), tko _ _ (by omega)]) 4 (by omega) rfl (fun g y hy go gl yl _ => ⟨fun w => by omega, fun w => by omega, fun w => by omega, fun w => by omega, fun _ => ⟨b, by rw [go _ _ (by omega) (by omega), ← m1]; exact b2, b1, tm, ?_⟩, fun w => by omega⟩)
            exact rR_glue (rR_unremark hy hc hq.symm b1) (fun a2 b2 w => by rw [tw_off (by omega), yl _ _ w, gl _ _ w])
        · rw [k5] at ref ⊢
          refine s_notice5 hq2 i1 ⟨rfl, _, rfl, ?_⟩
          refine ref _ (fun a b w => by rw [tw_off (by omega), tko _ _ (by omega)]) 5 (by omega) rfl (fun g y hy go gl yl _ => ⟨fun w => by omega, fun w => by omega, fun w => by omega, fun w => by omega, fun w => by omega, fun _ => ⟨tm, ?_⟩⟩)
          exact rR_glue (rR_heard hy hc hq.symm) (fun a2 b2 w => by rw [tw_off (by omega), yl _ _ w, gl _ _ w])
    · exact s_arrive_x (Or.inr h0) ⟨_, rfl, s_m_arrive_x rfl (Or.inr ⟨⟨c, hc, rfl⟩, by rw [hC2]; exact h0⟩) ⟨rfl, tm, rR_same h⟩⟩
