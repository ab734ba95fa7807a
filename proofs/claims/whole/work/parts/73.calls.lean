/-! The calls, part 1: each answer of the class is the reference's, and the relation stands again. -/
def rQ (v : Int32) : tw_S → Option tw_A → Prop := fun f r => r = some (tw_I v) ∧ ∃ tm, rR f f tm
def rC (fl : Bool) (d k : Nat) (As : List tw_A) : tw_S → Option tw_A → Prop := fun f r => ∃ v, r = some (tw_I v) ∧ tS fl d k (tw_R 61 :: As) f (rQ v)
section RS
variable {x y x2 y2 : tw_S} {c q tm : Nat}
theorem rR_g {f z : tw_S} (h : rR f f tm) (hz : ∀ a b, 61 ≤ a → z a b = f a b) : rR f (tw_up z 61 0 0) tm := rR_ext (fun _ _ _ => rfl) (fun a b u v => by rw [tw_off (by omega), hz a b u]) h
theorem rR_g0 {f : tw_S} (h : rR f f tm) : rR f (tw_up f 61 0 0) tm := rR_g h (fun _ _ _ => rfl)
theorem rR_same {f : tw_S} (h : rR f f tm) : rR (tw_up f 61 0 0) (tw_up f 61 0 0) tm := rR_glue (rR_g0 h) (fun a b u => tw_off (by omega))
theorem rR_end {z w : tw_S} (h : rR z w tm) (hw : ∀ a b, a < 61 → w a b = tw_up z 61 0 0 a b) : rR w w tm := rR_glue h (fun a b u => by rw [hw a b u]; exact tw_off (by omega))
theorem rR_setD (h : rR x y tm) (hx : ∀ a b, ¬ (2 ≤ a ∧ a ≤ 5) → x2 a b = x a b) (hy : ∀ a b, ¬ (62 ≤ a ∧ a ≤ 65) → y2 a b = y a b) (hn : rD x2 y2) : rR x2 y2 tm := by
  obtain ⟨h1, h2, h3, h4, h5, h6, h7, h8, h9⟩ := h
  exact ⟨hn, rL_ext (fun a b _ => hx a b (by omega)) (fun a b _ => hy a b (by omega)) h2, rT_ext (fun a b _ => hx a b (by omega)) (fun a b _ => hy a b (by omega)) h3, by rw [hx _ _ (by omega), hy _ _ (by omega)]; exact h4, fun c hc => rF_ext (fun b => hx _ b (by omega)) (fun a b _ => hy a b (by omega)) (h5 c hc), fun c hc => rE_ext (fun a b _ => hx a b (by omega)) (fun a b _ => hy a b (by omega)) (h6 c hc), fun c hc => rI_ext (Nat.le_refl _) (fun a b _ => hx a b (by omega)) (fun a b _ => hy a b (by omega)) (h7 c hc), fun c hc => rS_ext (fun a b _ => hx a b (by omega)) (fun b _ u => by rw [hx _ _ (by omega)]; exact u) (fun a b _ => hy a b (by omega)) (h8 c hc), fun c hc => rW_ext (fun b => hx _ b (by omega)) (fun a _ => hy a _ (by omega)) (h9 c hc)⟩
theorem rR_setF (h : rR x y tm) (hc : c < 2) (hq : q = 17 + 22 * c) (hx : ∀ a b, a ≠ q → x2 a b = x a b) (hy : ∀ a b, ¬ (((66 ≤ a ∧ a ≤ 68 ∨ 84 ≤ a ∧ a ≤ 86 ∨ 94 ≤ a ∧ a ≤ 96) ∧ b = c) ∨ (a = 69 ∧ 2 * c ≤ b ∧ b < 2 * c + 2) ∨ (77 ≤ a ∧ a ≤ 79 ∧ 8 * c ≤ b ∧ b < 8 * c + 8)) → y2 a b = y a b) (hn : rF x2 y2 c q) : rR x2 y2 tm := by
  obtain ⟨h1, h2, h3, h4, h5, h6, h7, h8, h9⟩ := h
  refine ⟨rD_ext (fun a b _ => hx a b (by omega)) (fun a b _ => hy a b (by omega)) h1, rL_ext (fun a b _ => hx a b (by omega)) (fun a b _ => hy a b (by omega)) h2, rT_ext (fun a b _ => hx a b (by omega)) (fun a b _ => hy a b (by omega)) h3, by rw [hx _ _ (by omega), hy _ _ (by omega)]; exact h4, fun c2 hc2 => ?_, fun c hc => rE_ext (fun a b _ => hx a b (by omega)) (fun a b _ => hy a b (by omega)) (h6 c hc), fun c hc => rI_ext (Nat.le_refl _) (fun a b _ => hx a b (by omega)) (fun a b _ => hy a b (by omega)) (h7 c hc), fun c hc => rS_ext (fun a b _ => hx a b (by omega)) (fun b _ u => by rw [hx _ _ (by omega)]; exact u) (fun a b _ => hy a b (by omega)) (h8 c hc), fun c hc => rW_ext (fun b => hx _ b (by omega)) (fun a _ => hy a _ (by omega)) (h9 c hc)⟩
  by_cases he : c2 = c
  · subst he
    rw [← hq]
    exact hn
  · exact rF_ext (fun b => hx _ b (by omega)) (fun a b _ => hy a b (by omega)) (h5 c2 hc2)
theorem rR_setI (h : rR x y tm) (hc : c < 2) (hq : q = 17 + 22 * c) (hx : ∀ a b, ¬ (q + 11 ≤ a ∧ a ≤ q + 16) → x2 a b = x a b) (hy : ∀ a b, ¬ ((a = 98 ∧ b = c) ∨ (a = 97 ∧ 200 * c ≤ b ∧ b < 200 * c + 200)) → y2 a b = y a b) (hn : rI x2 y2 tm c q) : rR x2 y2 tm := by
  obtain ⟨h1, h2, h3, h4, h5, h6, h7, h8, h9⟩ := h
  refine ⟨rD_ext (fun a b _ => hx a b (by omega)) (fun a b _ => hy a b (by omega)) h1, rL_ext (fun a b _ => hx a b (by omega)) (fun a b _ => hy a b (by omega)) h2, rT_ext (fun a b _ => hx a b (by omega)) (fun a b _ => hy a b (by omega)) h3, by rw [hx _ _ (by omega), hy _ _ (by omega)]; exact h4, fun c hc => rF_ext (fun b => hx _ b (by omega)) (fun a b _ => hy a b (by omega)) (h5 c hc), fun c hc => rE_ext (fun a b _ => hx a b (by omega)) (fun a b _ => hy a b (by omega)) (h6 c hc), fun c2 hc2 => ?_, fun c hc => rS_ext (fun a b _ => hx a b (by omega)) (fun b _ u => by rw [hx _ _ (by omega)]; exact u) (fun a b _ => hy a b (by omega)) (h8 c hc), fun c hc => rW_ext (fun b => hx _ b (by omega)) (fun a _ => hy a _ (by omega)) (h9 c hc)⟩
  by_cases he : c2 = c
  · subst he
    rw [← hq]
    exact hn
  · exact rI_ext (Nat.le_refl _) (fun a b _ => hx a b (by omega)) (fun a b _ => hy a b (by omega)) (h7 c2 hc2)
theorem rR_setW (h : rR x y tm) (hc : c < 2) (hq : q = 17 + 22 * c) (hx : ∀ a b, a ≠ q + 21 → x2 a b = x a b) (hy : ∀ a b, ¬ (80 ≤ a ∧ a ≤ 83 ∧ b = c) → y2 a b = y a b) (hn : rW x2 y2 c q) : rR x2 y2 tm := by
  obtain ⟨h1, h2, h3, h4, h5, h6, h7, h8, h9⟩ := h
  refine ⟨rD_ext (fun a b _ => hx a b (by omega)) (fun a b _ => hy a b (by omega)) h1, rL_ext (fun a b _ => hx a b (by omega)) (fun a b _ => hy a b (by omega)) h2, rT_ext (fun a b _ => hx a b (by omega)) (fun a b _ => hy a b (by omega)) h3, by rw [hx _ _ (by omega), hy _ _ (by omega)]; exact h4, fun c hc => rF_ext (fun b => hx _ b (by omega)) (fun a b _ => hy a b (by omega)) (h5 c hc), fun c hc => rE_ext (fun a b _ => hx a b (by omega)) (fun a b _ => hy a b (by omega)) (h6 c hc), fun c hc => rI_ext (Nat.le_refl _) (fun a b _ => hx a b (by omega)) (fun a b _ => hy a b (by omega)) (h7 c hc), fun c hc => rS_ext (fun a b _ => hx a b (by omega)) (fun b _ u => by rw [hx _ _ (by omega)]; exact u) (fun a b _ => hy a b (by omega)) (h8 c hc), fun c2 hc2 => ?_⟩
  by_cases he : c2 = c
  · subst he
    rw [← hq]
    exact hn
  · exact rW_ext (fun b => hx _ b (by omega)) (fun a _ => hy a _ (by omega)) (h9 c2 hc2)
theorem rR_setS (h : rR x y tm) (hc : c < 2) (hq : q = 17 + 22 * c) (hx : ∀ a b, ¬ (q + 17 ≤ a ∧ a ≤ q + 20) → x2 a b = x a b) (hy : ∀ a b, ¬ (((87 ≤ a ∧ a ≤ 88 ∨ 92 ≤ a ∧ a ≤ 93) ∧ b = c) ∨ (89 ≤ a ∧ a ≤ 91 ∧ 4 * c ≤ b ∧ b < 4 * c + 4)) → y2 a b = y a b) (hn : rS x2 y2 c q) : rR x2 y2 tm := by
  obtain ⟨h1, h2, h3, h4, h5, h6, h7, h8, h9⟩ := h
  refine ⟨rD_ext (fun a b _ => hx a b (by omega)) (fun a b _ => hy a b (by omega)) h1, rL_ext (fun a b _ => hx a b (by omega)) (fun a b _ => hy a b (by omega)) h2, rT_ext (fun a b _ => hx a b (by omega)) (fun a b _ => hy a b (by omega)) h3, by rw [hx _ _ (by omega), hy _ _ (by omega)]; exact h4, fun c hc => rF_ext (fun b => hx _ b (by omega)) (fun a b _ => hy a b (by omega)) (h5 c hc), fun c hc => rE_ext (fun a b _ => hx a b (by omega)) (fun a b _ => hy a b (by omega)) (h6 c hc), fun c hc => rI_ext (Nat.le_refl _) (fun a b _ => hx a b (by omega)) (fun a b _ => hy a b (by omega)) (h7 c hc), fun c2 hc2 => ?_, fun c hc => rW_ext (fun b => hx _ b (by omega)) (fun a _ => hy a _ (by omega)) (h9 c hc)⟩
  by_cases he : c2 = c
  · subst he
    rw [← hq]
    exact hn
  · exact rS_ext (fun a b _ => hx a b (by omega)) (fun b _ u => by rw [hx _ _ (by omega)]; exact u) (fun a b _ => hy a b (by omega)) (h8 c2 hc2)
theorem rR_setE (h : rR x y tm) (hc : c < 2) (hq : q = 17 + 22 * c) (hx : ∀ a b, ¬ (q + 2 ≤ a ∧ a ≤ q + 10) → x2 a b = x a b) (hy : ∀ a b, ¬ (70 ≤ a ∧ a ≤ 76 ∧ 32 * c ≤ b ∧ b < 32 * c + 32) → y2 a b = y a b) (hd : x (q + 17) 3 = -1 ∨ ∀ s, s < 8 → x (q + 17) 3 = nI s → ∀ i, i < 4 → ¬ x (q + 3) (s * 4 + i) = 0 → ¬ x2 (q + 3) (s * 4 + i) = 0) (hn : rE x2 y2 c q) : rR x2 y2 tm := by
  obtain ⟨h1, h2, h3, h4, h5, h6, h7, h8, h9⟩ := h
  refine ⟨rD_ext (fun a b _ => hx a b (by omega)) (fun a b _ => hy a b (by omega)) h1, rL_ext (fun a b _ => hx a b (by omega)) (fun a b _ => hy a b (by omega)) h2, rT_ext (fun a b _ => hx a b (by omega)) (fun a b _ => hy a b (by omega)) h3, by rw [hx _ _ (by omega), hy _ _ (by omega)]; exact h4, fun c hc => rF_ext (fun b => hx _ b (by omega)) (fun a b _ => hy a b (by omega)) (h5 c hc), fun c2 hc2 => ?_, fun c hc => rI_ext (Nat.le_refl _) (fun a b _ => hx a b (by omega)) (fun a b _ => hy a b (by omega)) (h7 c hc), fun c2 hc2 => ?_, fun c hc => rW_ext (fun b => hx _ b (by omega)) (fun a _ => hy a _ (by omega)) (h9 c hc)⟩
  · by_cases he : c2 = c
    · subst he
      rw [← hq]
      exact hn
    · exact rE_ext (fun a b _ => hx a b (by omega)) (fun a b _ => hy a b (by omega)) (h6 c2 hc2)
  · by_cases he : c2 = c
    · subst he
      have h8 := h8 c2 hc2
      rw [← hq] at h8 ⊢
      obtain ⟨s1, s2⟩ := h8
      refine ⟨by rw [hx _ _ (by omega), hy _ _ (by omega)]; exact s1, ?_⟩
      rw [hx _ _ (by omega)]
      rcases s2 with s2 | ⟨s, a1, a2, k, k1, k2, k3, k4, k5, k6, k7⟩
      · exact Or.inl s2
      · refine Or.inr ⟨s, a1, a2, k, k1, by rw [hy _ _ (by omega)]; exact k2, by rw [hx _ _ (by omega), hx _ _ (by omega)]; exact k3, by rw [hx _ _ (by omega), hx _ _ (by omega)]; exact k4, fun i hi => ?_, by rw [hx _ _ (by omega), hy _ _ (by omega)]; exact k6, ?_⟩
        · obtain ⟨i1, i2⟩ := k5 i hi
          rw [hx (q + 18) i (by omega), hx (q + 19) i (by omega), hx (q + 20) i (by omega), hy 89 _ (by omega), hy 90 _ (by omega), hy 91 _ (by omega)]
          refine ⟨i1, fun u => ⟨(i2 u).1, (i2 u).2.1, ?_⟩⟩
          rcases hd with hd | hd
          · rw [a2] at hd
            exact absurd (nI_ge0 (n := s) (by omega)) (by rw [hd]; decide)
          · exact hd s a1 a2 i hi (i2 u).2.2
        · rw [hx _ _ (by omega), hy _ _ (by omega), p_x4_congr (g := x2 (q + 19)) (g2 := x (q + 19)) 4 (fun j hj => hx _ _ (by omega))]
          exact k7
    · exact rS_ext (fun a b _ => hx a b (by omega)) (fun b _ u => by rw [hx _ _ (by omega)]; exact u) (fun a b _ => hy a b (by omega)) (h8 c2 hc2)
end RS
theorem pk_not01 {x : Int32} (h : x < 0 ∨ nI 2 ≤ x) : ¬ (x = 0 ∨ x = 1) := by
  rintro (rfl | rfl)
  · rcases h with h | h <;> exact absurd h (by decide)
  · rcases h with h | h <;> exact absurd h (by decide)
theorem c_cut {fl : Bool} {d e tm : Nat} {f : tw_S} {x : Int32} (h : rR f f tm) (hx : x = 0 ∨ x = 1) : tS fl (d + 1) 86 [tw_R 0, tw_I x] f (fun f2 r => r = none ∧ tS fl (e + 1) 140 [tw_R 61, tw_I x] f2 (fun f3 r3 => r3 = none ∧ ∃ tm, rR f3 f3 tm)) := by
  refine s_cut hx ⟨rfl, s_m_cut rfl hx ⟨rfl, tm, ?_⟩⟩
  refine rR_end (z := tw_up f 0 5 x) ?_ (fun a b u => tw_off (by omega))
  have h2 := rR_g h (z := tw_up f 0 5 x) (fun a b u => tw_off (by omega))
  generalize tw_up (tw_up f 0 5 x) 61 0 0 = g at h2
  obtain ⟨h1, h2, h3, h4, h5, h6, h7, h8, h9⟩ := h2
  have hx : ∀ a b, a ≠ 0 → tw_up f 0 5 x a b = f a b := fun a b u => tw_off (by omega)
  have hy : ∀ a b, ¬ (a = 61 ∧ b = 38) → tw_up g 61 38 x a b = g a b := fun a b u => tw_off (by omega)
  exact ⟨rD_ext (fun a b _ => hx a b (by omega)) (fun a b _ => hy a b (by omega)) h1, rL_ext (fun a b _ => hx a b (by omega)) (fun a b _ => hy a b (by omega)) h2, rT_ext (fun a b _ => hx a b (by omega)) (fun a b _ => hy a b (by omega)) h3, by rw [tw_on, tw_on], fun c hc => rF_ext (fun b => hx _ b (by omega)) (fun a b _ => hy a b (by omega)) (h5 c hc), fun c hc => rE_ext (fun a b _ => hx a b (by omega)) (fun a b _ => hy a b (by omega)) (h6 c hc), fun c hc => rI_ext (Nat.le_refl _) (fun a b _ => hx a b (by omega)) (fun a b _ => hy a b (by omega)) (h7 c hc), fun c hc => rS_ext (fun a b _ => hx a b (by omega)) (fun b _ u => by rw [hx _ _ (by omega)]; exact u) (fun a b _ => hy a b (by omega)) (h8 c hc), fun c hc => rW_ext (fun b => hx _ b (by omega)) (fun a _ => hy a _ (by omega)) (h9 c hc)⟩
theorem c_lates {fl : Bool} {d e tm : Nat} {f : tw_S} (h : rR f f tm) : tS fl (d + 1) 101 [tw_R 0] f (rC fl (e + 1) 154 []) := by
  obtain ⟨m, l1, l2, l3, l4⟩ := (rR_g0 h).2.1
  exact s_lates ⟨_, rfl, s_m_lates rfl ⟨by rw [l2, l3], tm, rR_same h⟩⟩
theorem c_crash {fl : Bool} {d e tm : Nat} {f : tw_S} (h : rR f f tm) (x : Int32) : tS fl (d + 5) 87 [tw_R 0, tw_I x] f (rC fl (e + 2) 141 [tw_I x]) := by
  obtain g | g | ⟨c, hc, rfl⟩ := pk_ix x (n := 2) (by omega)
  · exact s_crash_x (pk_not01 (Or.inl g)) ⟨_, rfl, s_m_crash_x rfl (Or.inl g) ⟨rfl, tm, rR_same h⟩⟩
  · exact s_crash_x (pk_not01 (Or.inr g)) ⟨_, rfl, s_m_crash_x rfl (Or.inr g) ⟨rfl, tm, rR_same h⟩⟩
  · obtain ⟨m, l1, l2, _, _⟩ := h.2.1
    obtain ⟨t1, t2, _, _⟩ := h.2.2.1
    refine s_crash_c hc rfl l2 l1 t2 t1 (fun u => ⟨_, rfl, ?_⟩) (fun u => ⟨_, rfl, ?_⟩)
    · have h2 := rR_g0 h
      obtain ⟨m2, k1, _, k3, _⟩ := h2.2.1
      obtain ⟨_, _, t3, _⟩ := h2.2.2.1
      have hu := (h2.2.2.2.2.1 c hc).2.1
      exact s_m_crash_c rfl hc k3 k1 t3 t1 (fun _ => ⟨rfl, tm, rR_same h⟩) (fun w => absurd (hu.trans u) w)
    · have h2 := rR_g h (z := p_down f (17 + 22 * c)) (fun a b u => p_down_off (by omega))
      obtain ⟨m2, k1, _, k3, _⟩ := h2.2.1
      obtain ⟨_, _, t3, _⟩ := h2.2.2.1
      have hu := (h2.2.2.2.2.1 c hc).2.1
      exact s_m_crash_c rfl hc k3 k1 t3 t1 (fun w => absurd (hu.symm.trans w) u) (fun w => ⟨rfl, tm, rR_end (rR_down hc rfl h2) (fun a b u => k_down_off (by omega))⟩)
theorem c_flush {fl : Bool} {d e tm : Nat} {f : tw_S} (h : rR f f tm) (x : Int32) : tS fl (d + 2) 95 [tw_R 0, tw_I x] f (rC fl (e + 2) 149 [tw_I x]) := by
  obtain g | g | ⟨c, hc, rfl⟩ := pk_ix x (n := 2) (by omega)
  · exact s_flush_x (pk_not01 (Or.inl g)) ⟨_, rfl, s_m_flush_x rfl (Or.inl g) ⟨rfl, tm, rR_same h⟩⟩
  · exact s_flush_x (pk_not01 (Or.inr g)) ⟨_, rfl, s_m_flush_x rfl (Or.inr g) ⟨rfl, tm, rR_same h⟩⟩
  · generalize hq : 17 + 22 * c = q
    refine s_flush_c hc hq.symm (fun u => ⟨_, rfl, ?_⟩) (fun u => ⟨_, rfl, ?_⟩)
    · have hu := ((rR_g0 h).2.2.2.2.1 c hc).2.1
      rw [hq] at hu
      exact s_m_flush_c rfl hc (fun _ => ⟨rfl, tm, rR_same h⟩) (fun w => absurd (hu.trans u) w)
    · have h2 := rR_g h (z := tw_up f q 9 1) (fun a b u => tw_off (by omega))
      have hF := h2.2.2.2.2.1 c hc
      rw [hq] at hF
      refine s_m_flush_c rfl hc (fun w => absurd (hF.2.1.symm.trans w) u) (fun w => ⟨rfl, tm, rR_end (z := tw_up f q 9 1) (rR_setF h2 hc hq.symm (fun a b u => tw_off (by omega)) (fun a b u => tw_off (by omega)) ?_) (fun a b u => tw_off (by omega))⟩)
      generalize tw_up (tw_up f q 9 1) 61 0 0 = g at hF
      obtain ⟨f1, f2, f3, f4, f5, f6, f7, f8, f9, f10, f11, f12, f13, f14⟩ := hF
      refine ⟨?_, ?_, ?_, ?_, ?_, ?_, ?_, ?_, ?_, ?_, ?_, ?_, ?_, ?_⟩ <;> try (first | assumption | (simp only [tw_up, eq_self, Nat.reduceEqDiff, true_and, and_true, false_and, and_false, if_true, if_false, reduceIte] <;> assumption))
theorem c_restart {fl : Bool} {d e tm : Nat} {f : tw_S} (h : rR f f tm) (x : Int32) : tS fl (d + 2) 88 [tw_R 0, tw_I x] f (rC fl (e + 2) 142 [tw_I x]) := by
  obtain g | g | ⟨c, hc, rfl⟩ := pk_ix x (n := 2) (by omega)
  · exact s_restart_x (pk_not01 (Or.inl g)) ⟨_, rfl, s_m_restart_x rfl (Or.inl g) ⟨rfl, tm, rR_same h⟩⟩
  · exact s_restart_x (pk_not01 (Or.inr g)) ⟨_, rfl, s_m_restart_x rfl (Or.inr g) ⟨rfl, tm, rR_same h⟩⟩
  · generalize hq : 17 + 22 * c = q
    refine s_restart_c hc hq.symm (fun u => ⟨_, rfl, ?_⟩) (fun u => ⟨_, rfl, ?_⟩)
    · have hu := ((rR_g0 h).2.2.2.2.1 c hc).2.1
      rw [hq] at hu
      exact s_m_restart_c rfl hc (fun _ => ⟨rfl, tm, rR_same h⟩) (fun w => absurd (hu.symm.trans w) u)
    · have h2 := rR_g h (z := tw_up (tw_up f q 6 1) (q + 11) 6 0) (fun a b u => by rw [tw_off (by omega), tw_off (by omega)])
      have hF := h2.2.2.2.2.1 c hc
      rw [hq] at hF
      refine s_m_restart_c rfl hc (fun w => absurd (hF.2.1.trans u) w) (fun w => ⟨rfl, tm, rR_end (z := tw_up (tw_up f q 6 1) (q + 11) 6 0) ?_ (fun a b u => by rw [tw_off (by omega), tw_off (by omega)])⟩)
      generalize tw_up (tw_up (tw_up f q 6 1) (q + 11) 6 0) 61 0 0 = g at hF h2
      have h3 : rR (tw_up f q 6 1) (tw_up g 66 c 1) tm := by
        refine rR_setF h2 hc hq.symm (fun a b u => tw_off (by omega)) (fun a b u => tw_off (by omega)) ?_
        obtain ⟨f1, f2, f3, f4, f5, f6, f7, f8, f9, f10, f11, f12, f13, f14⟩ := hF
        refine ⟨?_, ?_, ?_, ?_, ?_, ?_, ?_, ?_, ?_, ?_, ?_, ?_, ?_, ?_⟩ <;> try (first | assumption | (simp only [tw_up, eq_self, Nat.reduceEqDiff, true_and, and_true, false_and, and_false, if_true, if_false, reduceIte] <;> assumption))
      refine rR_setI h3 hc hq.symm (fun a b u => tw_off (by omega)) (fun a b u => tw_off (by omega)) ?_
      obtain ⟨a, m, i1, i2, i3, i4, i5, i6⟩ := h3.2.2.2.2.2.2.1 c hc
      rw [hq] at i3
      exact ⟨a, 0, i1, by omega, by rw [tw_off (by omega)]; exact i3, tw_on, tw_on, fun i hi => by omega⟩
theorem c_takeOver {fl : Bool} {d e tm : Nat} {f : tw_S} (h : rR f f tm) (x : Int32) : tS fl (d + 3) 92 [tw_R 0, tw_I x] f (rC fl (e + 2) 147 [tw_I x]) := by
  obtain g | g | ⟨c, hc, rfl⟩ := pk_ix x (n := 2) (by omega)
  · exact s_takeOver_x (pk_not01 (Or.inl g)) ⟨_, rfl, s_m_takeOver_x rfl (Or.inl g) ⟨rfl, tm, rR_same h⟩⟩
  · exact s_takeOver_x (pk_not01 (Or.inr g)) ⟨_, rfl, s_m_takeOver_x rfl (Or.inr g) ⟨rfl, tm, rR_same h⟩⟩
  · generalize hq : 17 + 22 * c = q
    refine s_takeOver_c hc hq.symm (fun u => ⟨_, rfl, ?_⟩) (fun u => ⟨_, rfl, ?_⟩)
    · have hF := (rR_g0 h).2.2.2.2.1 c hc
      rw [hq] at hF
      exact s_m_takeOver_c rfl hc (fun _ => ⟨rfl, tm, rR_same h⟩) (fun w => absurd (show ¬ f q 6 = 0 ∧ f q 8 = 0 by rw [← hF.2.1, ← hF.2.2.2.1]; exact w) u)
    · generalize hk : (if f q 10 < p_great (f 2) (f 3) 5 then p_great (f 2) (f 3) 5 else f q 10) + 1 = kk
      have h2 := rR_g h (z := tw_up (tw_up (tw_up (tw_up (tw_up f q 7 0) q 10 kk) q 8 1) q 17 0) q 18 0) (fun a b u => by rw [tw_off (by omega), tw_off (by omega), tw_off (by omega), tw_off (by omega), tw_off (by omega)])
      have hF := h2.2.2.2.2.1 c hc
      have hD := h2.1
      rw [hq] at hF
      refine s_m_takeOver_c rfl hc (fun w => absurd (show ¬ _ ∧ _ by rw [hF.2.1, hF.2.2.2.1]; exact u) w) (fun w => ⟨rfl, tm, rR_end (z := tw_up (tw_up (tw_up (tw_up (tw_up f q 7 0) q 10 kk) q 8 1) q 17 0) q 18 0) ?_ (fun a b u => by rw [tw_off (by omega), tw_off (by omega), tw_off (by omega), tw_off (by omega), tw_off (by omega)])⟩)
      generalize tw_up (tw_up (tw_up (tw_up (tw_up (tw_up f q 7 0) q 10 kk) q 8 1) q 17 0) q 18 0) 61 0 0 = g at hF h2 hD
      have ek : (if g 67 c ≤ p_great (g 62) (g 63) 5 then p_great (g 62) (g 63) 5 else g 67 c) + 1 = kk := by
        rw [hD.1, hD.2.1, hF.2.2.2.2.2.1, ← hk]
        congr 1
        generalize p_great (f 2) (f 3) 5 = pg
        generalize f q 10 = fk
        by_cases h1 : fk < pg
        · rw [if_pos h1, if_pos (Int32.le_of_lt h1)]
        · rw [if_neg h1]
          by_cases h3 : fk ≤ pg
          · rw [if_pos h3]
            exact Int32.le_antisymm (Int32.not_lt.mp h1) h3
          · rw [if_neg h3]
      rw [ek]
      refine rR_setF h2 hc hq.symm (fun a b u => by rw [tw_off (by omega), tw_off (by omega), tw_off (by omega), tw_off (by omega), tw_off (by omega)]) (fun a b u => by rw [tw_off (by omega), tw_off (by omega), tw_off (by omega), tw_off (by omega), tw_off (by omega)]) ?_
      obtain ⟨f1, f2, f3, f4, f5, f6, f7, f8, f9, f10, f11, f12, f13, f14⟩ := hF
      refine ⟨?_, ?_, ?_, ?_, ?_, ?_, ?_, ?_, ?_, ?_, ?_, ?_, ?_, ?_⟩ <;> try (first | assumption | (simp only [tw_up, eq_self, Nat.reduceEqDiff, true_and, and_true, false_and, and_false, if_true, if_false, reduceIte] <;> assumption))
      · intro v
        simp [tw_up] at v
      · intro _
        exact ⟨0, by omega, by simp [tw_up, tw_n0], by simp [tw_up, tw_n0], by simp [tw_up]⟩
theorem c_lose {fl : Bool} {d e tm : Nat} {f : tw_S} (h : rR f f tm) (x : Int32) : tS fl (d + 2) 97 [tw_R 0, tw_I x] f (rC fl (e + 2) 150 [tw_I x]) := by
  obtain g | g | ⟨i, hi, rfl⟩ := pk_ix x (n := 5) (by omega)
  · exact s_lose_x (Or.inl g) ⟨_, rfl, s_m_lose_x rfl (Or.inl g) ⟨rfl, tm, rR_same h⟩⟩
  · exact s_lose_x (Or.inr g) ⟨_, rfl, s_m_lose_x rfl (Or.inr g) ⟨rfl, tm, rR_same h⟩⟩
  · refine s_lose_i hi (fun u => ⟨_, rfl, ?_⟩) (fun u => ⟨_, rfl, ?_⟩)
    · have hD := (rR_g0 h).1
      exact s_m_lose_i rfl hi (fun _ => ⟨rfl, tm, rR_same h⟩) (fun w => absurd (by rw [hD.1]; exact u) w)
    · have h2 := rR_g h (z := fun q j => if q = 2 ∧ j = i then 0 else if q = 5 ∧ i * 8 ≤ j ∧ j < i * 8 + 8 then 1 else f q j) (fun a b u => by rw [if_neg (by omega), if_neg (by omega)])
      have hD := h2.1
      refine s_m_lose_i rfl hi (fun w => absurd w (by rw [hD.1]; exact u)) (fun w => ⟨rfl, tm, rR_end (z := fun q j => if q = 2 ∧ j = i then 0 else if q = 5 ∧ i * 8 ≤ j ∧ j < i * 8 + 8 then 1 else f q j) (rR_setD h2 (fun a b u => by rw [if_neg (by omega), if_neg (by omega)]) (fun a b u => by rw [k_lose, if_neg (by omega), if_neg (by omega)]) ?_) (fun a b u => by rw [k_lose, if_neg (by omega), if_neg (by omega)])⟩)
      obtain ⟨d1, d2, d3, d4⟩ := hD
      refine ⟨?_, ?_, ?_, ?_⟩ <;> funext j <;> simp only [k_lose, Nat.reduceEqDiff, false_and, if_false, true_and, d1, d2, d3, d4]
theorem c_replace {fl : Bool} {d e tm : Nat} {f : tw_S} (h : rR f f tm) (x : Int32) : tS fl (d + 4) 98 [tw_R 0, tw_I x] f (rC fl (e + 2) 151 [tw_I x]) := by
  obtain g | g | ⟨i, hi, rfl⟩ := pk_ix x (n := 5) (by omega)
  · exact s_replace_x (Or.inl g) ⟨_, rfl, s_m_replace_x rfl (Or.inl g) ⟨rfl, tm, rR_same h⟩⟩
  · exact s_replace_x (Or.inr g) ⟨_, rfl, s_m_replace_x rfl (Or.inr g) ⟨rfl, tm, rR_same h⟩⟩
  · refine s_replace_i hi (fun u => ⟨_, rfl, ?_⟩) (fun u => ⟨_, rfl, ?_⟩)
    · have hD := (rR_g0 h).1
      exact s_m_replace_i rfl hi (fun _ => ⟨rfl, tm, rR_same h⟩) (fun w => absurd w (by rw [hD.1]; exact u))
    · have h2 := rR_g h (z := tw_up (tw_up f 3 i (p_great (f 2) (f 3) 5)) 2 i 1) (fun a b u => by rw [tw_off (by omega), tw_off (by omega)])
      have hD := h2.1
      refine s_m_replace_i rfl hi (fun w => absurd (by rw [hD.1]; exact u) w) (fun w => ⟨rfl, tm, rR_end (z := tw_up (tw_up f 3 i (p_great (f 2) (f 3) 5)) 2 i 1) (rR_setD h2 (fun a b u => by rw [tw_off (by omega), tw_off (by omega)]) (fun a b u => by rw [tw_off (by omega), tw_off (by omega)]) ?_) (fun a b u => by rw [tw_off (by omega), tw_off (by omega)])⟩)
      generalize hgg : tw_up (tw_up (tw_up f 3 i (p_great (f 2) (f 3) 5)) 2 i 1) 61 0 0 = g at hD
      obtain ⟨d1, d2, d3, d4⟩ := hD
      rw [d1, d2]
      refine ⟨?_, ?_, ?_, ?_⟩ <;> funext j <;> simp only [tw_up, Nat.reduceEqDiff, false_and, if_false, true_and, d1, d2, d3, d4]
theorem c_rebuild {fl : Bool} {d e tm : Nat} {f : tw_S} (h : rR f f tm) (x : Int32) : tS fl (d + 3) 99 [tw_R 0, tw_I x] f (rC fl (e + 3) 152 [tw_I x]) := by
  obtain g | g | ⟨i, hi, rfl⟩ := pk_ix x (n := 5) (by omega)
  · exact s_rebuild_x (Or.inl g) ⟨_, rfl, s_m_rebuild_x rfl (Or.inl g) ⟨rfl, tm, rR_same h⟩⟩
  · exact s_rebuild_x (Or.inr g) ⟨_, rfl, s_m_rebuild_x rfl (Or.inr g) ⟨rfl, tm, rR_same h⟩⟩
  · have hD := (rR_g0 h).1
    obtain ⟨d1, d2, d3, d4⟩ := hD
    refine s_rebuild_i hi (fun u => ⟨_, rfl, ?_⟩) (fun u u2 => ⟨_, rfl, ?_⟩) (fun u u2 u3 => ⟨_, rfl, ?_⟩) (fun u u2 u3 => ⟨_, rfl, ?_⟩)
    · refine s_m_rebuild_i rfl hi (fun _ => ⟨rfl, tm, rR_same h⟩) (fun w => absurd (by rw [d1]; exact u) w) (fun w => absurd (by rw [d1]; exact u) w) (fun w => absurd (by rw [d1]; exact u) w)
    · refine s_m_rebuild_i rfl hi (fun w => absurd w (by rw [d1]; exact u)) (fun _ _ => ⟨rfl, tm, rR_same h⟩) (fun _ w => absurd w (by rw [d4]; exact u2)) (fun _ w => absurd w (by rw [d4]; exact u2))
    · refine s_m_rebuild_i rfl hi (fun w => absurd w (by rw [d1]; exact u)) (fun _ _ => ⟨rfl, tm, rR_same h⟩) (fun _ _ _ => ⟨rfl, tm, rR_same h⟩) (fun _ _ w => absurd (by rw [d4]; exact u3) w)
    · generalize hs : p_ft (fun s => f 5 (i * 8 + s)) 8 0 = s at u2 u3 ⊢
      generalize hv : p_xor (f 4) i s 5 = v
      have h2 := rR_g h (z := tw_up (tw_up f 4 (i * 8 + s) v) 5 (i * 8 + s) 0) (fun a b u => by rw [tw_off (by omega), tw_off (by omega)])
      have hD := h2.1
      obtain ⟨e1, e2, e3, e4⟩ := hD
      refine s_m_rebuild_i rfl hi (fun w => absurd w (by rw [e1]; exact u)) (fun _ w => absurd (by rw [e4, hs]; exact u2) w) (fun _ _ w => absurd w (by rw [e4, hs]; exact u3)) (fun _ _ _ => ?_)
      rw [e4, hs, e3, hv]
      exact ⟨rfl, tm, rR_end (z := tw_up (tw_up f 4 (i * 8 + s) v) 5 (i * 8 + s) 0) (rR_setD h2 (fun a b u => by rw [tw_off (by omega), tw_off (by omega)]) (fun a b u => by rw [k_put, tw_off (by omega), tw_off (by omega)]) (rD_put h2.1)) (fun a b u => by rw [k_put, tw_off (by omega), tw_off (by omega)])⟩
theorem c_keyOf {fl : Bool} {d e tm : Nat} {f : tw_S} (h : rR f f tm) (x : Int32) : tS fl (d + 2) 104 [tw_R 0, tw_I x] f (rC fl (e + 2) 157 [tw_I x]) := by
  obtain g | g | ⟨i, hi, rfl⟩ := pk_ix x (n := 5) (by omega)
  · exact s_keyOf_x (Or.inl g) ⟨_, rfl, s_m_keyOf_x rfl (Or.inl g) ⟨rfl, tm, rR_same h⟩⟩
  · exact s_keyOf_x (Or.inr g) ⟨_, rfl, s_m_keyOf_x rfl (Or.inr g) ⟨rfl, tm, rR_same h⟩⟩
  · obtain ⟨d1, d2, d3, d4⟩ := (rR_g0 h).1
    refine s_keyOf_i hi (fun u => ⟨_, rfl, ?_⟩) (fun u => ⟨_, rfl, ?_⟩)
    · exact s_m_keyOf_i rfl hi (fun _ => ⟨rfl, tm, rR_same h⟩) (fun w => absurd (by rw [d1]; exact u) w)
    · exact s_m_keyOf_i rfl hi (fun w => absurd w (by rw [d1]; exact u)) (fun _ => ⟨by rw [d2], tm, rR_same h⟩)
/-- the parity is that of the others where all together are 0 -/
theorem p_xor_all {g : Nat → Int32} {s : Nat} (hs : s < 8) : (g (p_pd s * 8 + s) = p_xor g (p_pd s) s 5) ↔ p_xor g 5 s 5 = 0 := by
  have key : ∀ a b : Int32, a = b ↔ b ^^^ a = 0 := by
    intro a b
    rw [Int32.xor_eq_zero_iff]
    exact eq_comm
  have hp : p_pd s < 5 := by unfold p_pd; omega
  rw [key]
  generalize p_pd s = p at hp
  have e : p_xor g p s 5 ^^^ g (p * 8 + s) = p_xor g 5 s 5 := by
    rcases (show p = 0 ∨ p = 1 ∨ p = 2 ∨ p = 3 ∨ p = 4 by omega) with rfl | rfl | rfl | rfl | rfl <;> simp [p_xor] <;> ac_rfl
  rw [e]
theorem c_parityGood {fl : Bool} {d e tm : Nat} {f : tw_S} (h : rR f f tm) (x : Int32) : tS fl (d + 4) 103 [tw_R 0, tw_I x] f (rC fl (e + 2) 155 [tw_I x]) := by
  obtain g | g | ⟨s, hs, rfl⟩ := pk_ix x (n := 8) (by omega)
  · exact s_parityGood_x (Or.inl g) ⟨_, rfl, s_m_parityGood_x rfl (Or.inl g) ⟨rfl, tm, rR_same h⟩⟩
  · exact s_parityGood_x (Or.inr g) ⟨_, rfl, s_m_parityGood_x rfl (Or.inr g) ⟨rfl, tm, rR_same h⟩⟩
  · obtain ⟨d1, d2, d3, d4⟩ := (rR_g0 h).1
    refine s_parityGood_s hs (fun u => ⟨_, rfl, ?_⟩) (fun u u2 => ⟨_, rfl, ?_⟩) (fun u u2 => ⟨_, rfl, ?_⟩)
    · exact s_m_parityGood_s rfl hs (fun _ => ⟨rfl, tm, rR_same h⟩) (fun w => absurd (by rw [d4]; exact u) w) (fun w => absurd (by rw [d4]; exact u) w)
    · exact s_m_parityGood_s rfl hs (fun w => absurd w (by rw [d4]; exact u)) (fun _ _ => ⟨rfl, tm, rR_same h⟩) (fun _ w => absurd (by rw [d3]; exact (p_xor_all hs).mp u2) w)
    · exact s_m_parityGood_s rfl hs (fun w => absurd w (by rw [d4]; exact u)) (fun _ w => absurd w (by rw [d3]; exact fun v => u2 ((p_xor_all hs).mpr v))) (fun _ _ => ⟨rfl, tm, rR_same h⟩)
theorem c_state {fl : Bool} {d e tm : Nat} {f : tw_S} (h : rR f f tm) (x y : Int32) : tS fl (d + 3) 105 [tw_R 0, tw_I x, tw_I y] f (rC fl (e + 3) 160 [tw_I x, tw_I y]) := by
  obtain g | g | ⟨c, hc, rfl⟩ := pk_ix x (n := 2) (by omega)
  · exact s_state_x (pk_not01 (Or.inl g)) ⟨_, rfl, s_m_state_x rfl (Or.inl (Or.inl g)) ⟨rfl, tm, rR_same h⟩⟩
  · exact s_state_x (pk_not01 (Or.inr g)) ⟨_, rfl, s_m_state_x rfl (Or.inl (Or.inr g)) ⟨rfl, tm, rR_same h⟩⟩
  · obtain g | g | ⟨j, hj, rfl⟩ := pk_ix y (n := 14) (by omega)
    · exact s_state_y hc rfl (Or.inl g) ⟨_, rfl, s_m_state_x rfl (Or.inr ⟨Or.inl g, c, hc, rfl⟩) ⟨rfl, tm, rR_same h⟩⟩
    · exact s_state_y hc rfl (Or.inr g) ⟨_, rfl, s_m_state_x rfl (Or.inr ⟨Or.inr g, c, hc, rfl⟩) ⟨rfl, tm, rR_same h⟩⟩
    · refine s_state_j hc rfl hj ⟨_, rfl, s_m_state_j rfl hc hj ⟨?_, tm, rR_same h⟩⟩
      have h2 := rR_g0 h
      generalize tw_up f 61 0 0 = g at h2
      obtain ⟨f1, f2, f3, f4, f5, f6, f7, f8, f9, f10, f11, f12, f13, f14⟩ := h2.2.2.2.2.1 c hc
      have hE := h2.2.2.2.2.2.1 c hc
      obtain ⟨a, m, i1, i2, i3, i4, i5, i6⟩ := h2.2.2.2.2.2.2.1 c hc
      obtain ⟨s1, s2⟩ := h2.2.2.2.2.2.2.2.1 c hc
      congr 2
      rcases (show j = 0 ∨ j = 1 ∨ j = 2 ∨ j = 3 ∨ j = 4 ∨ j = 5 ∨ j = 6 ∨ j = 7 ∨ j = 8 ∨ j = 9 ∨ j = 10 ∨ j = 11 ∨ j = 12 ∨ j = 13 by omega) with rfl | rfl | rfl | rfl | rfl | rfl | rfl | rfl | rfl | rfl | rfl | rfl | rfl | rfl <;> simp only [k_st, p_st]
      · rw [p_cd_congr (g := fun j => g 73 (32 * c + j)) (g2 := f (17 + 22 * c + 3)) 8 (fun j hj => by simp only [(hE j (by omega)).2.1])]
      · rw [p_cnt_congr (g := fun j => g 74 (32 * c + j)) (g2 := f (17 + 22 * c + 7)) 32 (fun j hj => by simp only [(hE j (by omega)).2.2.2.2.1])]
      · rw [i4, i5]
      · exact f11
      · exact f6
      · rw [f2]
      · rw [f3]
      · rw [f4]
      · rw [f5]
      · exact s1
      · rw [f7, b_two]
        rfl
      · exact f8.symm
      · exact f9.symm
      · exact f10.symm
