/-! The calls, part 2: late, write, read, arrive. -/
section RT
variable {x y x2 y2 : tw_S} {c q tm : Nat}
theorem rR_setL (h : rR x y tm) (hx : ∀ a b, ¬ (12 ≤ a ∧ a ≤ 16) → x2 a b = x a b) (hy : ∀ a b, ¬ ((104 ≤ a ∧ a ≤ 107) ∨ (a = 61 ∧ b = 45)) → y2 a b = y a b) (hn : rL x2 y2) : rR x2 y2 tm := by
  obtain ⟨h1, h2, h3, h4, h5, h6, h7, h8, h9⟩ := h
  exact ⟨rD_ext (fun a b _ => hx a b (by omega)) (fun a b _ => hy a b (by omega)) h1, hn, rT_ext (fun a b _ => hx a b (by omega)) (fun a b _ => hy a b (by omega)) h3, by rw [hx _ _ (by omega), hy _ _ (by omega)]; exact h4, fun c hc => rF_ext (fun b => hx _ b (by omega)) (fun a b _ => hy a b (by omega)) (h5 c hc), fun c hc => rE_ext (fun a b _ => hx a b (by omega)) (fun a b _ => hy a b (by omega)) (h6 c hc), fun c hc => rI_ext (Nat.le_refl _) (fun a b _ => hx a b (by omega)) (fun a b _ => hy a b (by omega)) (h7 c hc), fun c hc => rS_ext (fun a b _ => hx a b (by omega)) (fun b _ u => by rw [hx _ _ (by omega)]; exact u) (fun a b _ => hy a b (by omega)) (h8 c hc), fun c hc => rW_ext (fun b => hx _ b (by omega)) (fun a _ => hy a _ (by omega)) (h9 c hc)⟩
theorem rR_setT {tm2 : Nat} (h : rR x y tm) (htm : tm ≤ tm2) (hx : ∀ a b, ¬ (6 ≤ a ∧ a ≤ 11) → x2 a b = x a b) (hy : ∀ a b, ¬ ((99 ≤ a ∧ a ≤ 103) ∨ (a = 61 ∧ b = 39)) → y2 a b = y a b) (hn : rT x2 y2 tm2) : rR x2 y2 tm2 := by
  obtain ⟨h1, h2, h3, h4, h5, h6, h7, h8, h9⟩ := h
  exact ⟨rD_ext (fun a b _ => hx a b (by omega)) (fun a b _ => hy a b (by omega)) h1, rL_ext (fun a b _ => hx a b (by omega)) (fun a b _ => hy a b (by omega)) h2, hn, by rw [hx _ _ (by omega), hy _ _ (by omega)]; exact h4, fun c hc => rF_ext (fun b => hx _ b (by omega)) (fun a b _ => hy a b (by omega)) (h5 c hc), fun c hc => rE_ext (fun a b _ => hx a b (by omega)) (fun a b _ => hy a b (by omega)) (h6 c hc), fun c hc => rI_ext htm (fun a b _ => hx a b (by omega)) (fun a b _ => hy a b (by omega)) (h7 c hc), fun c hc => rS_ext (fun a b _ => hx a b (by omega)) (fun b _ u => by rw [hx _ _ (by omega)]; exact u) (fun a b _ => hy a b (by omega)) (h8 c hc), fun c hc => rW_ext (fun b => hx _ b (by omega)) (fun a _ => hy a _ (by omega)) (h9 c hc)⟩
theorem rR_addT (h : rR x y tm) (htm : tm < 200) (hx : ∀ a b, ¬ (a = 6 ∧ b = 5) ∧ ¬ (7 ≤ a ∧ a ≤ 11 ∧ b = tm) → x2 a b = x a b) (hy : ∀ a b, ¬ (a = 61 ∧ b = 39) ∧ ¬ (99 ≤ a ∧ a ≤ 103 ∧ b = tm) → y2 a b = y a b) (hx1 : x2 6 5 = nI (tm + 1)) (hy1 : y2 61 39 = nI (tm + 1)) (h7 : y2 99 tm = x2 7 tm) (h8 : y2 100 tm = x2 8 tm) (h9 : x2 7 tm = 0 → y2 101 tm = x2 9 tm ∧ y2 102 tm = x2 10 tm ∧ y2 103 tm = x2 11 tm) : rR x2 y2 (tm + 1) := by
  refine rR_setT h (by omega) (fun a b u => hx a b (by omega)) (fun a b u => hy a b (by omega)) ⟨by omega, hx1, hy1, fun t ht => ?_⟩
  by_cases he : t = tm
  · subst he
    exact ⟨h7, h8, h9⟩
  · rw [hx 7 t (by omega), hx 8 t (by omega), hx 9 t (by omega), hx 10 t (by omega), hx 11 t (by omega), hy 99 t (by omega), hy 100 t (by omega), hy 101 t (by omega), hy 102 t (by omega), hy 103 t (by omega)]
    exact h.2.2.1.2.2.2 t (by omega)
theorem rR_send {k p v w t s a b e g : Int32} {qt : Nat} (h : rR x y tm) (hc : c < 2) (hqt : qt = 17 + 22 * (1 - c)) (hM : rM tm k p v w t s a b e g) : rR (p_send x qt k p v w t) (k_send y c s a b e g) tm := by
  have hI := h.2.2.2.2.2.2.1 (1 - c) (by omega)
  obtain ⟨a0, m, h1, h2, h3, h4, h5, h6⟩ := hI
  exact rR_setI h (by omega) hqt (fun a b u => p_send_off u) (fun a b u => k_send_off2 hc h5 h2 (by omega)) (rI_send hc rfl (by rw [hqt]; exact h.2.2.2.2.2.2.1 (1 - c) (by omega)) h.2.2.2.1 hM)
end RT
theorem p_lrm_off {f : tw_S} {k m a b : Nat} (h : ¬ (13 ≤ a ∧ a ≤ 16) ∧ ¬ (a = 12 ∧ b = 4)) : p_lrm f k m a b = f a b := by
  rw [p_lrm, if_neg (by omega), if_neg (by omega)]
theorem k_lrm_off {f : tw_S} {k m e a b : Nat} (h : ¬ (104 ≤ a ∧ a ≤ 107) ∧ ¬ (a = 61 ∧ b = 45)) : k_lrm f k m e a b = f a b := by
  rw [k_lrm, if_neg (by omega), if_neg (by omega)]
theorem rR_lrm {x y : tw_S} {tm k m : Nat} (h : rR x y tm) (hm : x 12 4 = nI m) (hm2 : m ≤ 20) (hk : k < m) : rR (p_lrm x k m) (k_lrm y k m (m - 1)) tm := by
  refine rR_setL h (fun a b u => p_lrm_off (by omega)) (fun a b u => k_lrm_off (by omega)) ?_
  obtain ⟨m2, l1, l2, l3, l4⟩ := h.2.1
  have := (nI_eq (by omega) (by omega)).mp (hm.symm.trans l2)
  subst this
  refine ⟨m - 1, by omega, by simp [p_lrm], by simp [k_lrm], fun i hi => ?_⟩
  by_cases hik : k ≤ i
  · have e1 : ∀ z, 13 ≤ z ∧ z ≤ 16 → p_lrm x k m z i = x z (i + 1) := fun z hz => by rw [p_lrm, if_pos (by omega)]
    have e2 : ∀ z, 104 ≤ z ∧ z ≤ 107 → k_lrm y k m (m - 1) z i = y z (i + 1) := fun z hz => by rw [k_lrm, if_pos (by omega)]
    rw [e1 13 (by omega), e1 14 (by omega), e1 15 (by omega), e1 16 (by omega), e2 104 (by omega), e2 105 (by omega), e2 106 (by omega), e2 107 (by omega)]
    exact l4 (i + 1) (by omega)
  · have e1 : ∀ z, 13 ≤ z ∧ z ≤ 16 → p_lrm x k m z i = x z i := fun z hz => by rw [p_lrm, if_neg (by omega), if_neg (by omega)]
    have e2 : ∀ z, 104 ≤ z ∧ z ≤ 107 → k_lrm y k m (m - 1) z i = y z i := fun z hz => by rw [k_lrm, if_neg (by omega), if_neg (by omega)]
    rw [e1 13 (by omega), e1 14 (by omega), e1 15 (by omega), e1 16 (by omega), e2 104 (by omega), e2 105 (by omega), e2 106 (by omega), e2 107 (by omega)]
    exact l4 i (by omega)
theorem c_late {fl : Bool} {d e tm : Nat} {f : tw_S} (h : rR f f tm) (x : Int32) : tS fl (d + 2) 100 [tw_R 0, tw_I x] f (rC fl (e + 2) 153 [tw_I x]) := by
  obtain ⟨m, l1, l2, l3, l4⟩ := h.2.1
  have l3' : tw_up f 61 0 0 61 45 = nI m := by rw [tw_off (by omega)]; exact l3
  obtain g | g | ⟨k, hk, rfl⟩ := pk_ix x (n := m) (by omega)
  · exact s_late_x l2 l1 (Or.inl g) ⟨_, rfl, s_m_late_x rfl l3' l1 (Or.inl g) ⟨rfl, tm, rR_same h⟩⟩
  · exact s_late_x l2 l1 (Or.inr g) ⟨_, rfl, s_m_late_x rfl l3' l1 (Or.inr g) ⟨rfl, tm, rR_same h⟩⟩
  · obtain ⟨k1, k2, k3, k4, ⟨i, i1, i2⟩, ⟨s, s1, s2⟩⟩ := l4 k hk
    refine s_late_k l2 l1 hk i2 i1 s2 s1 (fun u => ⟨_, rfl, ?_⟩) (fun u => ⟨_, rfl, ?_⟩)
    · generalize hz : p_lrm (tw_up (tw_up f 4 (i * 8 + s) (f 15 k)) 5 (i * 8 + s) 0) k m = z
      have zo : ∀ a b, 61 ≤ a → z a b = f a b := fun a b hab => by rw [← hz, p_lrm_off (by omega), tw_off (by omega), tw_off (by omega)]
      have h2 := rR_g h zo
      have go : ∀ a b, 61 ≤ a → ¬ (a = 61 ∧ b = 0) → tw_up z 61 0 0 a b = f a b := fun a b hab hb => by rw [tw_off (by omega), zo a b hab]
      generalize hg : tw_up z 61 0 0 = g at h2 go
      obtain ⟨d1, d2, d3, d4⟩ := h2.1
      have hy : rR (p_lrm (tw_up (tw_up f 4 (i * 8 + s) (f 15 k)) 5 (i * 8 + s) 0) k m) (k_lrm (k_put g i s (g 106 k)) k m (m - 1)) tm := by
        refine rR_lrm ?_ (by rw [tw_off (by omega), tw_off (by omega)]; exact l2) l1 hk
        rw [go 106 k (by omega) (by omega), k3]
        exact rR_setD h2 (fun a b u => by rw [tw_off (by omega), tw_off (by omega)]) (fun a b u => by rw [k_put, tw_off (by omega), tw_off (by omega)]) (rD_put h2.1)
      rw [hz] at hy
      refine s_m_late_k hg (by rw [go _ _ (by omega) (by omega)]; exact l3) l1 hk (by rw [go _ _ (by omega) (by omega), k1]; exact i2) i1 (by rw [go _ _ (by omega) (by omega), k2]; exact s2) s1 (fun w => ⟨rfl, tm, rR_end hy (fun a b w => by rw [k_lrm_off (by omega), k_put, tw_off (by omega), tw_off (by omega), ← hg])⟩) (fun w => absurd (show _ ∧ _ by rw [d1, d2, go 107 k (by omega) (by omega), k4]; exact u) w)
    · have zo : ∀ a b, 61 ≤ a → p_lrm f k m a b = f a b := fun a b hab => p_lrm_off (by omega)
      have h2 := rR_g h zo
      have go : ∀ a b, 61 ≤ a → ¬ (a = 61 ∧ b = 0) → tw_up (p_lrm f k m) 61 0 0 a b = f a b := fun a b hab hb => by rw [tw_off (by omega), zo a b hab]
      have hy := rR_lrm h2 l2 l1 hk
      generalize hg : tw_up (p_lrm f k m) 61 0 0 = g at h2 go hy
      obtain ⟨d1, d2, d3, d4⟩ := h2.1
      refine s_m_late_k hg (by rw [go _ _ (by omega) (by omega)]; exact l3) l1 hk (by rw [go _ _ (by omega) (by omega), k1]; exact i2) i1 (by rw [go _ _ (by omega) (by omega), k2]; exact s2) s1 (fun w => absurd (by rw [d1, d2, go 107 k (by omega) (by omega), k4] at w; exact w) u) (fun w => ⟨rfl, tm, rR_end hy (fun a b w => by rw [k_lrm_off (by omega), ← hg])⟩)
/-- may the controller serve the block? -/
theorem r_serves {x y : tw_S} {c q k : Nat} (hF : rF x y c q) (hk : k < 32) : (¬ x q 6 = 0 ∧ p_bit (x q 11) (k / 16)) ↔ (¬ y 66 c = 0 ∧ ¬ y 69 (2 * c + k / 16) = 0) := by
  obtain ⟨f1, f2, f3, f4, f5, f6, f7, f8, f9, f10, f11, f12, f13, f14⟩ := hF
  rw [f2, f7, b_bit (by omega) (by omega)]
theorem r_ctl {x : Int32} (c : Nat) (hc : c < 2) (h : x = nI c) : x = 0 ∨ x = 1 := by
  rcases (show c = 0 ∨ c = 1 by omega) with rfl | rfl <;> subst h
  · exact Or.inl rfl
  · exact Or.inr rfl
theorem r_num {x y : tw_S} {c q : Nat} (hc : c < 2) (hq : q = 17 + 22 * c) (hF : rF x y c q) : x q 0 = if q = 17 then 0 else 1 := by
  rw [hF.1]
  rcases (show c = 0 ∨ c = 1 by omega) with rfl | rfl <;> subst hq <;> rfl
theorem r_box {x y : tw_S} {tm c q : Nat} (hI : rI x y tm c q) : p_box x q := by
  obtain ⟨a, m, h1, h2, h3, h4, h5, h6⟩ := hI
  exact ⟨a, m, h3, h1, h4, h2⟩
theorem r_kbox {x y : tw_S} {tm c q : Nat} (hI : rI x y tm (1 - c) q) : k_box y c := by
  obtain ⟨a, m, h1, h2, h3, h4, h5, h6⟩ := hI
  exact ⟨m, h5, h2⟩
theorem c_write_bad {fl : Bool} {d e tm : Nat} {f : tw_S} {x y z : Int32} (h : rR f f tm) (hx : ¬ (∃ c k, c < 2 ∧ k < 32 ∧ x = nI c ∧ y = nI k ∧ tm < 200)) : tS fl (d + 4) 67 [tw_R 0, tw_I x, tw_I y, tw_I z] f (rC fl (e + 2) 115 [tw_I x, tw_I y, tw_I z]) := by
  obtain ⟨t1, t2, t3, t4⟩ := h.2.2.1
  have t3' : tw_up f 61 0 0 61 39 = nI tm := by rw [tw_off (by omega)]; exact t3
  have k1 : ((x < 0 ∨ nI 2 ≤ x) ∨ (∃ i, i < 2 ∧ x = nI i) ∧ ((y < 0 ∨ nI 32 ≤ y) ∨ (∃ j, j < 32 ∧ y = nI j) ∧ tm = 200)) := by
    obtain g | g | ⟨c, hc, hx1⟩ := pk_ix x (n := 2) (by omega)
    · exact Or.inl (Or.inl g)
    · exact Or.inl (Or.inr g)
    · refine Or.inr ⟨⟨c, hc, hx1⟩, ?_⟩
      obtain g | g | ⟨k, hk, hy1⟩ := pk_ix y (n := 32) (by omega)
      · exact Or.inl (Or.inl g)
      · exact Or.inl (Or.inr g)
      · refine Or.inr ⟨⟨k, hk, hy1⟩, ?_⟩
        rcases Nat.lt_or_ge tm 200 with u | u
        · exact absurd ⟨c, k, hc, hk, hx1, hy1, u⟩ hx
        · omega
  have k2 : ¬ (x = 0 ∨ x = 1) ∨ (y < 0 ∨ nI 32 ≤ y) ∨ tm = 200 := by
    rcases k1 with k1 | ⟨_, k1 | k1⟩
    · exact Or.inl (pk_not01 k1)
    · exact Or.inr (Or.inl k1)
    · exact Or.inr (Or.inr k1.2)
  exact s_write_x t2 t1 k2 ⟨_, rfl, s_m_write_x rfl t3' t1 k1 ⟨rfl, tm, rR_same h⟩⟩
theorem c_read_bad {fl : Bool} {d e tm : Nat} {f : tw_S} {x y : Int32} (h : rR f f tm) (hx : ¬ (∃ c k, c < 2 ∧ k < 32 ∧ x = nI c ∧ y = nI k ∧ tm < 200)) : tS fl (d + 5) 69 [tw_R 0, tw_I x, tw_I y] f (rC fl (e + 4) 124 [tw_I x, tw_I y]) := by
  obtain ⟨t1, t2, t3, t4⟩ := h.2.2.1
  have t3' : tw_up f 61 0 0 61 39 = nI tm := by rw [tw_off (by omega)]; exact t3
  have k1 : ((x < 0 ∨ nI 2 ≤ x) ∨ (∃ i, i < 2 ∧ x = nI i) ∧ ((y < 0 ∨ nI 32 ≤ y) ∨ (∃ j, j < 32 ∧ y = nI j) ∧ tm = 200)) := by
    obtain g | g | ⟨c, hc, hx1⟩ := pk_ix x (n := 2) (by omega)
    · exact Or.inl (Or.inl g)
    · exact Or.inl (Or.inr g)
    · refine Or.inr ⟨⟨c, hc, hx1⟩, ?_⟩
      obtain g | g | ⟨k, hk, hy1⟩ := pk_ix y (n := 32) (by omega)
      · exact Or.inl (Or.inl g)
      · exact Or.inl (Or.inr g)
      · refine Or.inr ⟨⟨k, hk, hy1⟩, ?_⟩
        rcases Nat.lt_or_ge tm 200 with u | u
        · exact absurd ⟨c, k, hc, hk, hx1, hy1, u⟩ hx
        · omega
  have k2 : ¬ (x = 0 ∨ x = 1) ∨ (y < 0 ∨ nI 32 ≤ y) ∨ tm = 200 := by
    rcases k1 with k1 | ⟨_, k1 | k1⟩
    · exact Or.inl (pk_not01 k1)
    · exact Or.inr (Or.inl k1)
    · exact Or.inr (Or.inr k1.2)
  exact s_read_x t2 t1 k2 ⟨_, rfl, s_m_read_x rfl t3' t1 k1 ⟨rfl, tm, rR_same h⟩⟩
theorem k_tick_on {f : tw_S} {tm : Nat} {a b v : Int32} (ht : f 61 39 = nI tm) (ht2 : tm < 200) : k_tick f a b v = tw_up (tw_up (tw_up (tw_up (tw_up (tw_up f 99 tm 2) 100 tm v) 101 tm a) 102 tm b) 103 tm 0) 61 39 (nI (tm + 1)) := by
  rw [k_tick, ht, nI_clamp (by omega), nI_1]
theorem rR_tick2 {x y : tw_S} {tm : Nat} {a b v : Int32} (h : rR x y tm) (ht : tm < 200) : rR (tw_up (tw_up (tw_up x 7 tm 2) 8 tm v) 6 5 (nI (tm + 1))) (k_tick y a b v) (tm + 1) := by
  rw [k_tick_on h.2.2.1.2.2.1 ht]
  refine rR_addT h ht (fun a b u => by rw [tw_off (by omega), tw_off (by omega), tw_off (by omega)]) (fun a b u => by rw [tw_off (by omega), tw_off (by omega), tw_off (by omega), tw_off (by omega), tw_off (by omega), tw_off (by omega)]) tw_on tw_on ?_ ?_ ?_
  · rw [tw_off (by omega), tw_off (by omega), tw_off (by omega), tw_off (by omega), tw_off (by omega), tw_on, tw_off (by omega), tw_off (by omega), tw_on]
  · rw [tw_off (by omega), tw_off (by omega), tw_off (by omega), tw_off (by omega), tw_on, tw_off (by omega), tw_on]
  · intro u
    rw [tw_off (by omega), tw_off (by omega), tw_on] at u
    exact absurd u (by decide)
theorem p_write_on {f : tw_S} {q k tm : Nat} {v : Int32} (ht : f 6 5 = nI tm) (ht2 : tm < 200) : p_write f q k v = tw_up (tw_up (tw_up (tw_up (tw_up (tw_up (tw_up (tw_up (tw_up (tw_up (tw_up f q 16 (f q 16 + 1)) (q + 2) k 1) (q + 3) k 1) (q + 4) k v) (q + 5) k (f q 16 + 1)) 7 tm 0) 8 tm v) 6 5 (nI (tm + 1))) 9 tm (f q 0)) 10 tm (nI k)) 11 tm (f q 16 + 1) := by
  rw [p_write, ht, nI_clamp (by omega), nI_1]
theorem rR_write {x y : tw_S} {tm c q k : Nat} {v : Int32} (h : rR x y tm) (hc : c < 2) (hq : q = 17 + 22 * c) (hk : k < 32) (ht : tm < 200) : rR (p_write x q k v) (k_w y c k v tm) (tm + 1) := by
  obtain ⟨t1, t2, t3, t4⟩ := h.2.2.1
  have hF := h.2.2.2.2.1 c hc
  have hE := h.2.2.2.2.2.1 c hc
  rw [← hq] at hF hE
  have hgi : y 96 c = x q 16 := hF.2.2.2.2.2.2.2.2.2.2.2.2.1
  have h1 : rR (tw_up x q 16 (x q 16 + 1)) (tw_up y 96 c (y 96 c + 1)) tm := by
    refine rR_setF h hc hq (fun a b u => tw_off (by omega)) (fun a b u => tw_off (by omega)) ?_
    obtain ⟨f1, f2, f3, f4, f5, f6, f7, f8, f9, f10, f11, f12, f13, f14⟩ := hF
    refine ⟨?_, ?_, ?_, ?_, ?_, ?_, ?_, ?_, ?_, ?_, ?_, ?_, ?_, ?_⟩ <;> try (first | assumption | (simp only [tw_up, eq_self, Nat.reduceEqDiff, true_and, and_true, false_and, and_false, if_true, if_false, reduceIte] <;> assumption))
    rw [tw_on, tw_on, f13]
  have h2 : rR (tw_up (tw_up (tw_up (tw_up (tw_up x q 16 (x q 16 + 1)) (q + 2) k 1) (q + 3) k 1) (q + 4) k v) (q + 5) k (x q 16 + 1)) (k_keep1 y c k v) tm := by
    refine rR_setE h1 hc hq (fun a b u => by rw [tw_off (by omega), tw_off (by omega), tw_off (by omega), tw_off (by omega)]) (fun a b u => ?_) (Or.inr (fun s _ _ i _ u => ?_)) ?_
    · unfold k_keep1
      rw [tw_off (by omega)]
      unfold tw_up
      (repeat' split) <;> first | rfl | omega
    · rw [tw_off (by omega)] at u
      rw [tw_off (by omega), tw_off (by omega)]
      unfold tw_up
      split
      · decide
      · rw [if_neg (by omega), if_neg (by omega)]
        exact u
    · intro j hj
      by_cases hjk : j = k
      · subst hjk
        have y70 : k_keep1 y c j v 70 (32 * c + j) = 1 := by unfold k_keep1; rw [tw_off (by omega), tw_off (by omega), tw_off (by omega), tw_off (by omega), tw_off (by omega), tw_on]
        have y71 : k_keep1 y c j v 71 (32 * c + j) = v := by unfold k_keep1; rw [tw_off (by omega), tw_off (by omega), tw_off (by omega), tw_off (by omega), tw_on]
        have y73 : k_keep1 y c j v 73 (32 * c + j) = 1 := by unfold k_keep1; rw [tw_off (by omega), tw_off (by omega), tw_off (by omega), tw_on]
        have y72 : k_keep1 y c j v 72 (32 * c + j) = y 96 c + 1 := by unfold k_keep1; rw [tw_on]
        have yo : ∀ a, 74 ≤ a ∧ a ≤ 76 → k_keep1 y c j v a (32 * c + j) = y a (32 * c + j) := fun a ha => k_keep1_off (by omega)
        rw [y70, y71, y72, y73, yo 74 (by omega), yo 75 (by omega), yo 76 (by omega), hgi]
        obtain ⟨e1, e2, e3, e4, e5, e6⟩ := hE j hj
        refine ⟨?_, ?_, fun _ => ?_, fun _ => ⟨?_, ?_⟩, ?_, ?_⟩
        · rw [tw_off (by omega), tw_off (by omega), tw_off (by omega), tw_on]
        · rw [tw_off (by omega), tw_off (by omega), tw_on]
        · rw [tw_off (by omega), tw_off (by omega), tw_off (by omega), tw_on]; decide
        · rw [tw_off (by omega), tw_on]
        · rw [tw_on]
        · rw [tw_off (by omega), tw_off (by omega), tw_off (by omega), tw_off (by omega), tw_off (by omega)]; exact e5
        · rw [tw_off (by omega), tw_off (by omega), tw_off (by omega), tw_off (by omega), tw_off (by omega), tw_off (by omega), tw_off (by omega), tw_off (by omega), tw_off (by omega), tw_off (by omega), tw_off (by omega), tw_off (by omega), tw_off (by omega), tw_off (by omega), tw_off (by omega)]; exact e6
      · have xo : ∀ a, q + 2 ≤ a → tw_up (tw_up (tw_up (tw_up (tw_up x q 16 (x q 16 + 1)) (q + 2) k 1) (q + 3) k 1) (q + 4) k v) (q + 5) k (x q 16 + 1) a j = x a j := fun a ha => by rw [tw_off (by omega), tw_off (by omega), tw_off (by omega), tw_off (by omega), tw_off (by omega)]
        have yo : ∀ a, 70 ≤ a ∧ a ≤ 76 → k_keep1 y c k v a (32 * c + j) = y a (32 * c + j) := fun a ha => by unfold k_keep1; rw [tw_off (by omega), tw_off (by omega), tw_off (by omega), tw_off (by omega), tw_off (by omega), tw_off (by omega)]
        rw [xo (q + 2) (by omega), xo (q + 3) (by omega), xo (q + 4) (by omega), xo (q + 5) (by omega), xo (q + 7) (by omega), xo (q + 9) (by omega), xo (q + 10) (by omega), yo 70 (by omega), yo 71 (by omega), yo 72 (by omega), yo 73 (by omega), yo 74 (by omega), yo 75 (by omega), yo 76 (by omega)]
        exact hE j hj
  rw [p_write_on t2 ht]
  have ek : ∀ a b, ¬ (a = 61 ∧ b = 39) ∧ ¬ (99 ≤ a ∧ a ≤ 103) → k_keep1 (k_tick y (nI c) (nI k) v) c k v a b = k_keep1 y c k v a b := by
    intro a b u
    have e96 : k_tick y (nI c) (nI k) v 96 c = y 96 c := k_tick_off (by omega)
    unfold k_keep1
    rw [e96]
    unfold tw_up
    (repeat' split) <;> first | rfl | exact k_tick_off (by omega)
  have kt : ∀ a, 99 ≤ a ∧ a ≤ 103 → ∀ b, k_keep1 (k_tick y (nI c) (nI k) v) c k v a b = k_tick y (nI c) (nI k) v a b := fun a ha b => k_keep1_off (by omega)
  have kk : ∀ a b, 99 ≤ a ∧ a ≤ 103 → b ≠ tm → k_tick y (nI c) (nI k) v a b = y a b := fun a b ha hb => by rw [k_tick_on t3 ht, tw_off (by omega), tw_off (by omega), tw_off (by omega), tw_off (by omega), tw_off (by omega), tw_off (by omega)]
  refine rR_addT h2 ht (fun a b u => by rw [tw_off (by omega), tw_off (by omega), tw_off (by omega), tw_off (by omega), tw_off (by omega), tw_off (by omega)]) (fun a b u => ?_) ?_ ?_ ?_ ?_ (fun _ => ⟨?_, ?_, ?_⟩)
  · unfold k_w
    rw [tw_off (by omega), tw_off (by omega)]
    by_cases hT : 99 ≤ a ∧ a ≤ 103
    · rw [kt a hT, kk a b hT (by omega), k_keep1_off (by omega)]
    · exact ek a b (by omega)
  · rw [tw_off (by omega), tw_off (by omega), tw_off (by omega), tw_on]
  · unfold k_w
    rw [tw_off (by omega), tw_off (by omega), k_keep1_off (by omega), k_tick_on t3 ht, tw_on]
  · unfold k_w
    rw [tw_off (by omega), tw_on, tw_off (by omega), tw_off (by omega), tw_off (by omega), tw_off (by omega), tw_off (by omega), tw_on]
  · unfold k_w
    rw [tw_off (by omega), tw_off (by omega), kt 100 (by omega), k_tick_on t3 ht, tw_off (by omega), tw_off (by omega), tw_off (by omega), tw_off (by omega), tw_on, tw_off (by omega), tw_off (by omega), tw_off (by omega), tw_off (by omega), tw_on]
  · unfold k_w
    rw [tw_off (by omega), tw_off (by omega), kt 101 (by omega), k_tick_on t3 ht, tw_off (by omega), tw_off (by omega), tw_off (by omega), tw_on, tw_off (by omega), tw_off (by omega), tw_on, hF.1]
  · unfold k_w
    rw [tw_off (by omega), tw_off (by omega), kt 102 (by omega), k_tick_on t3 ht, tw_off (by omega), tw_off (by omega), tw_on, tw_off (by omega), tw_on]
  · unfold k_w
    rw [tw_on, tw_on, hgi]
theorem k_w_lo {f : tw_S} {c b tm a i : Nat} {v : Int32} (h : a < 61) : k_w f c b v tm a i = f a i := by
  unfold k_w
  rw [tw_off (by omega), tw_off (by omega), k_keep1_off (by omega), k_tick_off (by omega)]
theorem p_write_hi {f : tw_S} {q k a i : Nat} {v : Int32} (hq : q = 17 ∨ q = 39) (h : 61 ≤ a) : p_write f q k v a i = f a i := by
  unfold p_write
  rw [tw_off (by omega), tw_off (by omega), tw_off (by omega), tw_off (by omega), tw_off (by omega), tw_off (by omega), tw_off (by omega), tw_off (by omega), tw_off (by omega), tw_off (by omega), tw_off (by omega)]
theorem c_write {fl : Bool} {d e tm : Nat} {f : tw_S} (h : rR f f tm) (x y v : Int32) : tS fl (d + 4) 67 [tw_R 0, tw_I x, tw_I y, tw_I v] f (rC fl (e + 2) 115 [tw_I x, tw_I y, tw_I v]) := by
  by_cases hx : ∃ c k, c < 2 ∧ k < 32 ∧ x = nI c ∧ y = nI k ∧ tm < 200
  · obtain ⟨c, k, hc, hk, rfl, rfl, ht⟩ := hx
    obtain ⟨t1, t2, t3, t4⟩ := h.2.2.1
    generalize hq : 17 + 22 * c = q
    have hq2 : q = 17 ∨ q = 39 := by omega
    have hF := h.2.2.2.2.1 c hc
    rw [hq] at hF
    have hI := h.2.2.2.2.2.2.1 (1 - c) (by omega)
    rw [show 17 + 22 * (1 - c) = 56 - q by omega] at hI
    have hgi : f 96 c = f q 16 := hF.2.2.2.2.2.2.2.2.2.2.2.2.1
    obtain ⟨a0, m, i1, i2, i3, i4, i5, i6⟩ := hI
    refine s_write_c hc hq.symm (r_num hc hq.symm hF) ⟨a0, m, i3, i1, i4, i2⟩ hk t2 ht (fun u => ⟨_, rfl, ?_⟩) (fun u u2 => ⟨_, rfl, ?_⟩) (fun u u2 => ⟨_, rfl, ?_⟩)
    · generalize hz : tw_up (tw_up (tw_up f 7 tm 2) 8 tm v) 6 5 (nI (tm + 1)) = z
      have zo : ∀ a b, 61 ≤ a → z a b = f a b := fun a b hab => by rw [← hz, tw_off (by omega), tw_off (by omega), tw_off (by omega)]
      have h2 := rR_g h zo
      generalize hg : tw_up z 61 0 0 = g at h2
      have hF2 := h2.2.2.2.2.1 c hc
      rw [hq] at hF2
      obtain ⟨_, m2, _, j2, _, _, j5, _⟩ := h2.2.2.2.2.2.2.1 (1 - c) (by omega)
      have s1 := r_serves hF2 hk
      have hy := rR_tick2 (a := nI c) (b := nI k) (v := v) h2 ht
      rw [hz] at hy
      exact s_m_write_c hg hc hk h2.2.2.1.2.2.1 ht j5 j2 (fun _ => ⟨rfl, tm + 1, rR_end hy (fun a b w => by rw [k_tick_off (by omega), ← hg])⟩) (fun w => absurd (s1.mpr w) u) (fun w => absurd (s1.mpr w) u)
    · have h2 := rR_g h (z := p_write f q k v) (fun a b hab => p_write_hi hq2 hab)
      generalize hg : tw_up (p_write f q k v) 61 0 0 = g at h2
      have hF2 := h2.2.2.2.2.1 c hc
      rw [hq] at hF2
      obtain ⟨_, m2, _, j2, _, _, j5, _⟩ := h2.2.2.2.2.2.2.1 (1 - c) (by omega)
      have s1 := r_serves hF2 hk
      have hp : g 68 c = f q 7 := hF2.2.2.1
      exact s_m_write_c hg hc hk h2.2.2.1.2.2.1 ht j5 j2 (fun w => absurd (s1.mp u) w) (fun _ _ => ⟨rfl, tm + 1, rR_end (rR_write h2 hc hq.symm hk ht) (fun a b w => by rw [k_w_lo w, ← hg])⟩) (fun _ w => absurd (hp.trans u2) w)
    · have h2 := rR_g h (z := p_send (p_write f q k v) (56 - q) 0 (nI k) v (f q 16 + 1) (nI tm)) (fun a b hab => by rw [p_send_off (by omega)]; exact p_write_hi hq2 hab)
      generalize hg : tw_up (p_send (p_write f q k v) (56 - q) 0 (nI k) v (f q 16 + 1) (nI tm)) 61 0 0 = g at h2
      have hF2 := h2.2.2.2.2.1 c hc
      rw [hq] at hF2
      obtain ⟨_, m2, _, j2, _, _, j5, _⟩ := h2.2.2.2.2.2.2.1 (1 - c) (by omega)
      have s1 := r_serves hF2 hk
      have hp : g 68 c = f q 7 := hF2.2.2.1
      have hgi2 : g 96 c = f q 16 := hF2.2.2.2.2.2.2.2.2.2.2.2.2.1
      have hy := rR_send (qt := 56 - q) (rR_write (v := v) h2 hc hq.symm hk ht) hc (by omega) (k := 0) (p := nI k) (v := v) (w := f q 16 + 1) (t := nI tm) (s := 0) (a := nI k) (b := v) (e := g 96 c + 1) (g := nI tm) ⟨rfl, Or.inl ⟨rfl, ⟨k, hk, rfl⟩, rfl, rfl, by rw [hgi2], rfl, tm, by omega, rfl⟩⟩
      exact s_m_write_c hg hc hk h2.2.2.1.2.2.1 ht j5 j2 (fun w => absurd (s1.mp u) w) (fun _ w => absurd (hp.symm.trans w) u2) (fun _ _ => ⟨rfl, tm + 1, rR_end hy (fun a b w => by rw [k_send_off (by omega), k_w_lo w, ← hg])⟩)
  · exact c_write_bad h hx
