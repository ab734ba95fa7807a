/-! The calls, part 5: pair, moveOwner. -/
theorem rR_setFF {x y x2 y2 : tw_S} {tm : Nat} (h : rR x y tm) (hx : ∀ a b, a ≠ 17 ∧ a ≠ 39 → x2 a b = x a b) (hy : ∀ a b, ¬ (66 ≤ a ∧ a ≤ 69 ∨ 77 ≤ a ∧ a ≤ 79 ∨ 84 ≤ a ∧ a ≤ 86 ∨ 94 ≤ a ∧ a ≤ 96) → y2 a b = y a b) (h0 : rF x2 y2 0 17) (h1 : rF x2 y2 1 39) : rR x2 y2 tm := by
  obtain ⟨g1, g2, g3, g4, g5, g6, g7, g8, g9⟩ := h
  refine ⟨rD_ext (fun a b _ => hx a b (by omega)) (fun a b _ => hy a b (by omega)) g1, rL_ext (fun a b _ => hx a b (by omega)) (fun a b _ => hy a b (by omega)) g2, rT_ext (fun a b _ => hx a b (by omega)) (fun a b _ => hy a b (by omega)) g3, by rw [hx _ _ (by omega), hy _ _ (by omega)]; exact g4, fun c2 hc2 => ?_, fun c hc => rE_ext (fun a b _ => hx a b (by omega)) (fun a b _ => hy a b (by omega)) (g6 c hc), fun c hc => rI_ext (Nat.le_refl _) (fun a b _ => hx a b (by omega)) (fun a b _ => hy a b (by omega)) (g7 c hc), fun c hc => rS_ext (fun a b _ => hx a b (by omega)) (fun b _ u => by rw [hx _ _ (by omega)]; exact u) (fun a b _ => hy a b (by omega)) (g8 c hc), fun c hc => rW_ext (fun b => hx _ b (by omega)) (fun a _ => hy a _ (by omega)) (g9 c hc)⟩
  rcases (show c2 = 0 ∨ c2 = 1 by omega) with rfl | rfl
  · exact h0
  · exact h1
theorem rR_pair {x y x1 : tw_S} {tm w : Nat} {k : Int32} (h : rR x y tm) (hw : w < 2) (hk : k = y 67 w) (hr0 : p_rdy x 17) (hr1 : p_rdy x 39) (hx1 : ∀ a b, ¬ (a = 17 ∧ b = 11) ∧ ¬ (a = 39 ∧ b = 11) → x1 a b = x a b) (ho0 : x1 17 11 = p_bits (fun v => k_ow (k_ow y w 0) w 1 69 (2 * 0 + v)) 2) (ho1 : x1 39 11 = p_bits (fun v => k_ow (k_ow y w 0) w 1 69 (2 * 1 + v)) 2) : rR (p_begin (p_begin x1 17 k) 39 k) (k_pr y w) tm := by
  have yo : ∀ a b, a ≠ 69 → k_ow (k_ow y w 0) w 1 a b = y a b := fun a b u => by rw [k_ow_off u, k_ow_off u]
  have F0 := h.2.2.2.2.1 0 (by omega)
  have F1 := h.2.2.2.2.1 1 (by omega)
  have hk0 : tw_up (k_ow (k_ow y w 0) w 1) 67 (1 - w) (y 67 w) 67 0 = k := by
    rcases (show w = 0 ∨ w = 1 by omega) with rfl | rfl
    · rw [tw_off (by omega), yo _ _ (by omega), hk]
    · rw [tw_on, hk]
  have hk1 : tw_up (k_ow (k_ow y w 0) w 1) 67 (1 - w) (y 67 w) 67 1 = k := by
    rcases (show w = 0 ∨ w = 1 by omega) with rfl | rfl
    · rw [tw_on, hk]
    · rw [tw_off (by omega), yo _ _ (by omega), hk]
  have yy : ∀ a b, a ≠ 69 → ¬ (a = 67 ∧ b = 1 - w) → tw_up (k_ow (k_ow y w 0) w 1) 67 (1 - w) (y 67 w) a b = y a b := fun a b u v => by rw [tw_off v, yo a b u]
  have y69 : ∀ b, tw_up (k_ow (k_ow y w 0) w 1) 67 (1 - w) (y 67 w) 69 b = k_ow (k_ow y w 0) w 1 69 b := fun b => tw_off (by omega)
  unfold k_pr
  generalize tw_up (k_ow (k_ow y w 0) w 1) 67 (1 - w) (y 67 w) = y1 at hk0 hk1 yy y69
  have xo : ∀ a b, ¬ (a = 17 ∧ (b = 10 ∨ b = 11)) ∧ ¬ (a = 39 ∧ (b = 10 ∨ b = 11)) → tw_up (tw_up x1 39 10 k) 17 10 k a b = x a b := fun a b u => by rw [tw_off (by omega), tw_off (by omega), hx1 a b (by omega)]
  have base : rR (tw_up (tw_up x1 39 10 k) 17 10 k) y1 tm := by
    refine rR_setFF h (fun a b u => xo a b (by omega)) (fun a b u => yy a b (by omega) (by omega)) ?_ ?_
    · obtain ⟨f1, f2, f3, f4, f5, f6, f7, f8, f9, f10, f11, f12, f13, f14⟩ := F0
      unfold rF
      rw [xo 17 0 (by omega), xo 17 6 (by omega), xo 17 7 (by omega), xo 17 8 (by omega), xo 17 9 (by omega), xo 17 12 (by omega), xo 17 13 (by omega), xo 17 14 (by omega), xo 17 15 (by omega), xo 17 16 (by omega), xo 17 17 (by omega), xo 17 18 (by omega), tw_on, hk0, tw_off (by omega), tw_off (by omega), ho0, yy 66 0 (by omega) (by omega), yy 68 0 (by omega) (by omega), yy 84 0 (by omega) (by omega), yy 94 0 (by omega) (by omega), yy 95 0 (by omega) (by omega), yy 96 0 (by omega) (by omega), yy 85 0 (by omega) (by omega), yy 86 0 (by omega) (by omega)]
      refine ⟨f1, f2, f3, f4, f5, rfl, b_congr 2 (fun j hj => by simp only [y69]), ?_, ?_, ?_, f11, f12, f13, f14⟩
      · rw [f8]; exact b_congr 8 (fun j hj => by simp only [yy 77 (8 * 0 + j) (by omega) (by omega)])
      · rw [f9]; exact b_congr 8 (fun j hj => by simp only [yy 78 (8 * 0 + j) (by omega) (by omega)])
      · rw [f10]; exact b_congr 8 (fun j hj => by simp only [yy 79 (8 * 0 + j) (by omega) (by omega)])
    · obtain ⟨f1, f2, f3, f4, f5, f6, f7, f8, f9, f10, f11, f12, f13, f14⟩ := F1
      unfold rF
      rw [xo (17 + 22 * 1) 0 (by omega), xo (17 + 22 * 1) 6 (by omega), xo (17 + 22 * 1) 7 (by omega), xo (17 + 22 * 1) 8 (by omega), xo (17 + 22 * 1) 9 (by omega), xo (17 + 22 * 1) 12 (by omega), xo (17 + 22 * 1) 13 (by omega), xo (17 + 22 * 1) 14 (by omega), xo (17 + 22 * 1) 15 (by omega), xo (17 + 22 * 1) 16 (by omega), xo (17 + 22 * 1) 17 (by omega), xo (17 + 22 * 1) 18 (by omega), hk1, yy 66 1 (by omega) (by omega), yy 68 1 (by omega) (by omega), yy 84 1 (by omega) (by omega), yy 94 1 (by omega) (by omega), yy 95 1 (by omega) (by omega), yy 96 1 (by omega) (by omega), yy 85 1 (by omega) (by omega), yy 86 1 (by omega) (by omega)]
      refine ⟨f1, f2, f3, f4, f5, by rw [tw_off (by omega), tw_on], ?_, ?_, ?_, ?_, f11, f12, f13, f14⟩
      · rw [tw_off (by omega), tw_off (by omega), ho1]; exact b_congr 2 (fun j hj => by simp only [y69])
      · rw [f8]; exact b_congr 8 (fun j hj => by simp only [yy 77 (8 * 1 + j) (by omega) (by omega)])
      · rw [f9]; exact b_congr 8 (fun j hj => by simp only [yy 78 (8 * 1 + j) (by omega) (by omega)])
      · rw [f10]; exact b_congr 8 (fun j hj => by simp only [yy 79 (8 * 1 + j) (by omega) (by omega)])
  have d0 : ∀ j, j < 32 → x 20 j = 0 := fun j hj => (p_cd_zero 8).mp hr0.2.2.2.1 j (by omega)
  have d1 : ∀ j, j < 32 → x 42 j = 0 := fun j hj => (p_cd_zero 8).mp hr1.2.2.2.1 j (by omega)
  have s1 := rR_begin (c := 0) (q := 17) (by omega) rfl hk0 (by rw [tw_off (by omega), hx1 _ _ (by omega)]; exact hr0.2.2.1) (fun j hj => by rw [tw_off (by omega), hx1 _ _ (by omega)]; exact d0 j hj) base
  have s2 : rR (tw_up (p_begin x1 17 k) 39 10 k) (k_bp y1 0 32 8) tm := by
    refine rR_ext (fun a b _ => ?_) (fun a b _ _ => rfl) s1
    by_cases ha : a = 39 ∧ b = 10
    · rw [ha.1, ha.2, tw_on, p_begin_off (by omega), tw_on]
    · rw [tw_off ha]
      by_cases hb : ¬ (a = 17 ∧ (b = 7 ∨ b = 10 ∨ b = 13 ∨ b = 15)) ∧ ¬ ((a = 17 + 2 ∨ a = 17 + 3 ∨ a = 17 + 7 ∨ a = 17 + 8) ∧ b < 32) ∧ ¬ (a = 17 + 11 ∧ b = 6)
      · rw [p_begin_off hb, p_begin_off hb, tw_off ha]
      · by_cases h7 : a = 17 ∧ b = 7
        · rw [h7.1, h7.2, p_begin_7, p_begin_7]
        · by_cases h10 : a = 17 ∧ b = 10
          · rw [h10.1, h10.2, p_begin_10, p_begin_10]
          · rw [p_begin_z (by omega), p_begin_z (by omega)]
  refine rR_begin (c := 1) (q := 39) (by omega) rfl ?_ ?_ ?_ s2
  · rw [k_bp, if_neg (by omega), if_neg (by omega), if_neg (by omega), if_neg (by omega)]
    exact hk1
  · rw [p_begin_off (by omega), hx1 _ _ (by omega)]
    exact hr1.2.2.1
  · intro j hj
    rw [p_begin_off (by omega), hx1 _ _ (by omega)]
    exact d1 j hj
theorem k_pr_lo {f : tw_S} {w a b : Nat} (h : a < 61) : k_pr f w a b = f a b := by
  unfold k_pr
  rw [k_bp, if_neg (by omega), if_neg (by omega), if_neg (by omega), if_neg (by omega), k_bp, if_neg (by omega), if_neg (by omega), if_neg (by omega), if_neg (by omega), tw_off (by omega), k_ow_off (by omega), k_ow_off (by omega)]
theorem c_pair {fl : Bool} {d e tm : Nat} {f : tw_S} (h : rR f f tm) : tS fl (d + 4) 91 [tw_R 0] f (rC fl (e + 4) 145 []) := by
  have com : ∀ z : tw_S, (∀ a b, 61 ≤ a → z a b = f a b) → ∃ g, tw_up z 61 0 0 = g ∧ rR f g tm ∧ (∀ a b, a < 61 → g a b = z a b) ∧ (p_rdy f 17 ↔ k_quiet g 0) ∧ (p_rdy f 39 ↔ k_quiet g 1) ∧ g 61 38 = f 0 5 ∧ p_other (g 62) (g 63) (g 67 0) 5 = p_other (f 2) (f 3) (f 17 10) 5 ∧ p_other (g 62) (g 63) (g 67 1) 5 = p_other (f 2) (f 3) (f 39 10) 5 ∧ (p_any f ↔ k_any g 32) ∧ g 67 0 = f 17 10 ∧ g 67 1 = f 39 10 ∧ f 17 11 = p_bits (fun v => g 69 (2 * 0 + v)) 2 ∧ f 39 11 = p_bits (fun v => g 69 (2 * 1 + v)) 2 := by
    intro z zo
    have h2 := rR_g h zo
    refine ⟨_, rfl, h2, fun a b u => tw_off (by omega), ?_⟩
    generalize tw_up z 61 0 0 = g at h2
    obtain ⟨hD, hL, hT, hC, hF, hE, hI, hS, hW⟩ := h2
    have F0 := hF 0 (by omega)
    have F1 := hF 1 (by omega)
    refine ⟨r_quiet F0 (hE 0 (by omega)) (hS 0 (by omega)) (hW 0 (by omega)), r_quiet F1 (hE 1 (by omega)) (hS 1 (by omega)) (hW 1 (by omega)), hC, ?_, ?_, r_any F0 F1 (hE 0 (by omega)) (hE 1 (by omega)), F0.2.2.2.2.2.1, F1.2.2.2.2.2.1, F0.2.2.2.2.2.2.1, F1.2.2.2.2.2.2.1⟩
    · rw [hD.1, hD.2.1, F0.2.2.2.2.2.1]
    · rw [hD.1, hD.2.1, F1.2.2.2.2.2.1]
  refine s_pair (fun u => ⟨_, rfl, ?_⟩) (fun u u2 u3 => ⟨_, rfl, ?_⟩) (fun u u2 u3 => ⟨_, rfl, ?_⟩) (fun u u2 u3 => ⟨_, rfl, ?_⟩) (fun u u2 u3 u4 => ⟨_, rfl, ?_⟩)
  · obtain ⟨g, hg, h2, gl, q0, q1, hC, o0, o1, ha, k0, k1, b0, b1⟩ := com f (fun _ _ _ => rfl)
    have nq : ¬ (g 61 38 = 0 ∧ k_quiet g 0 ∧ k_quiet g 1) := by rw [hC, ← q0, ← q1]; exact u
    exact s_m_pair hg (fun _ => ⟨rfl, tm, rR_glue h2 (fun a b w => gl a b w)⟩) (fun w => absurd w nq) (fun w => absurd w nq) (fun w => absurd w nq) (fun w => absurd w nq)
  · obtain ⟨g, hg, h2, gl, q0, q1, hC, o0, o1, ha, k0, k1, b0, b1⟩ := com f (fun _ _ _ => rfl)
    have aq : (g 61 38 = 0 ∧ k_quiet g 0 ∧ k_quiet g 1) := by rw [hC, ← q0, ← q1]; exact u
    exact s_m_pair hg (fun w => absurd aq w) (fun _ _ _ => ⟨rfl, tm, rR_glue h2 (fun a b w => gl a b w)⟩) (fun _ w => absurd w (by rw [o0, o1]; exact fun v => v.elim u2 u3)) (fun _ w => absurd w (by rw [o0]; exact u2)) (fun _ _ w => absurd w (by rw [o1]; exact u3))
  · obtain ⟨g, hg, h2, gl, q0, q1, hC, o0, o1, ha, k0, k1, b0, b1⟩ := com f (fun _ _ _ => rfl)
    have aq : (g 61 38 = 0 ∧ k_quiet g 0 ∧ k_quiet g 1) := by rw [hC, ← q0, ← q1]; exact u
    exact s_m_pair hg (fun w => absurd aq w) (fun _ w w2 => absurd u2 (by rw [← o0, ← o1]; exact fun v => v.elim w w2)) (fun _ _ _ => ⟨rfl, tm, rR_glue h2 (fun a b w => gl a b w)⟩) (fun _ _ w => absurd (ha.mp u3) w) (fun _ _ _ w => absurd (ha.mp u3) w)
  · obtain ⟨g, hg, h2, gl, q0, q1, hC, o0, o1, ha, k0, k1, b0, b1⟩ := com (p_begin (p_begin (p_sh1 f) 17 (f 17 10)) 39 (f 17 10)) (fun a b w => by rw [p_begin_off (by omega), p_begin_off (by omega), p_sh1, tw_off (by omega), tw_off (by omega)])
    have aq : (g 61 38 = 0 ∧ k_quiet g 0 ∧ k_quiet g 1) := by rw [hC, ← q0, ← q1]; exact u
    have sh := (r_share (g := g) (w := 0) (by omega)).1 rfl
    rw [← b0, ← b1] at sh
    have hy := rR_pair (w := 0) (k := f 17 10) (x1 := p_sh1 f) h2 (by omega) k0.symm u.2.1 u.2.2 (fun a b w => by rw [p_sh1, tw_off (by omega), tw_off (by omega)]) (by rw [p_sh1, tw_off (by omega), tw_on]; exact sh.1) (by rw [p_sh1, tw_on]; exact sh.2)
    exact s_m_pair hg (fun w => absurd aq w) (fun _ w => absurd (by rw [o0]; exact u2) w) (fun _ _ w => absurd (ha.mpr w) u3) (fun _ _ _ => ⟨rfl, tm, rR_glue hy (fun a b w => by rw [k_pr_lo w, gl a b w])⟩) (fun _ w => absurd (by rw [o0]; exact u2) w)
  · obtain ⟨g, hg, h2, gl, q0, q1, hC, o0, o1, ha, k0, k1, b0, b1⟩ := com (p_begin (p_begin (p_sh0 f) 17 (f 39 10)) 39 (f 39 10)) (fun a b w => by rw [p_begin_off (by omega), p_begin_off (by omega), p_sh0, tw_off (by omega)])
    have aq : (g 61 38 = 0 ∧ k_quiet g 0 ∧ k_quiet g 1) := by rw [hC, ← q0, ← q1]; exact u
    have sh := (r_share (g := g) (w := 1) (by omega)).2 rfl
    rw [← b0, ← b1] at sh
    have hy := rR_pair (w := 1) (k := f 39 10) (x1 := p_sh0 f) h2 (by omega) k1.symm u.2.1 u.2.2 (fun a b w => by rw [p_sh0, tw_off (by omega)]) (by rw [p_sh0, tw_on]; exact sh.1) (by rw [p_sh0, tw_off (by omega)]; exact sh.2)
    exact s_m_pair hg (fun w => absurd aq w) (fun _ _ w => absurd (by rw [o1]; exact u3) w) (fun _ _ w => absurd (ha.mpr w) u4) (fun _ w => absurd w (by rw [o0]; exact u2)) (fun _ _ _ _ => ⟨rfl, tm, rR_glue hy (fun a b w => by rw [k_pr_lo w, gl a b w])⟩)
/-! moveOwner -/
theorem r_busy {x y : tw_S} {c q u : Nat} (hu : u < 2) (hF : rF x y c q) (hE : rE x y c q) (hS : rS x y c q) : p_busy x q u ↔ (k_busy y c u (16 * u + 16) ∨ k_busy2 y c u) := by
  have hno : x q 12 = p_bits (fun s => y 77 (8 * c + s)) 8 := hF.2.2.2.2.2.2.2.1
  constructor
  · rintro ⟨i, hi, hb | hb | hb⟩
    · rw [hno, b_bit (by omega) (by omega)] at hb
      exact Or.inl ⟨16 * u + 4 * i, by omega, by omega, Or.inr (by rw [show (16 * u + 4 * i) / 4 = u * 4 + i by omega]; exact hb)⟩
    · exact Or.inr ⟨u * 4 + i, by omega, by rw [hS.1]; exact hb, by omega⟩
    · by_cases hz : p_cnt (fun j => x (q + 3) ((u * 4 + i) * 4 + j)) 4 = 0
      · omega
      · have : ¬ ∀ j, j < 4 → x (q + 3) ((u * 4 + i) * 4 + j) = 0 := fun w => hz ((p_cnt_zero 4).mpr w)
        have ⟨j, hj⟩ := Classical.not_forall.mp this
        have hj1 : j < 4 := Classical.byContradiction (fun w => hj (fun v => absurd v w))
        have hj2 : ¬ x (q + 3) ((u * 4 + i) * 4 + j) = 0 := fun w => hj (fun _ => w)
        refine Or.inl ⟨(u * 4 + i) * 4 + j, by omega, by omega, Or.inl ?_⟩
        rw [(hE _ (by omega)).2.1]
        exact hj2
  · rintro (⟨i, h1, h2, hb | hb⟩ | ⟨s, h1, h2, h3⟩)
    · rw [(hE i (by omega)).2.1] at hb
      refine ⟨i / 4 - u * 4, by omega, Or.inr (Or.inr ?_)⟩
      rcases Nat.eq_zero_or_pos (p_cnt (fun j => x (q + 3) ((u * 4 + (i / 4 - u * 4)) * 4 + j)) 4) with hz | hz
      · have := (p_cnt_zero 4).mp hz (i % 4) (by omega)
        rw [show (u * 4 + (i / 4 - u * 4)) * 4 + i % 4 = i by omega] at this
        exact absurd this hb
      · exact hz
    · refine ⟨i / 4 - u * 4, by omega, Or.inl ?_⟩
      rw [hno, b_bit (by omega) (by omega), show u * 4 + (i / 4 - u * 4) = i / 4 by omega]
      exact hb
    · refine ⟨s - u * 4, by omega, Or.inr (Or.inl ?_)⟩
      rw [← hS.1, h2]
      exact congrArg nI (by omega)
theorem p_move_off {f : tw_S} {q q2 u a b : Nat} (h : ¬ ((a = q ∨ a = q2) ∧ b = 11) ∧ ¬ ((a = q + 2 ∨ a = q + 3 ∨ a = q2 + 7 ∨ a = q2 + 8) ∧ u * 16 ≤ b ∧ b < u * 16 + 16)) : p_move f q q2 u a b = f a b := by
  unfold p_move
  rw [p_dv, if_neg (by omega), p_dv, if_neg (by omega), tw_off (by omega), tw_off (by omega)]
theorem k_move_off {f : tw_S} {c u a b : Nat} (h : a ≠ 69 ∧ ¬ (a = 70 ∧ 32 * c + 16 * u ≤ b ∧ b < 32 * c + (16 * u + 16)) ∧ ¬ (a = 74 ∧ 32 * (1 - c) + 16 * u ≤ b ∧ b < 32 * (1 - c) + (16 * u + 16))) : k_move f c u a b = f a b := by
  unfold k_move
  rw [tw_off (by omega), tw_off (by omega), k_mv0, if_neg (by omega), if_neg (by omega)]
theorem rR_move {x y : tw_S} {tm c q q2 u : Nat} (h : rR x y tm) (hc : c < 2) (hq : q = 17 + 22 * c) (hq2 : q2 = 56 - q) (hu : u < 2) (hb : ¬ p_busy x q u) : rR (p_move x q q2 u) (k_move y c u) tm := by
  have F0 := h.2.2.2.2.1 c hc
  have F1 := h.2.2.2.2.1 (1 - c) (by omega)
  have E0 := h.2.2.2.2.2.1 c hc
  have E1 := h.2.2.2.2.2.1 (1 - c) (by omega)
  have S0 := h.2.2.2.2.2.2.2.1 c hc
  have hq3 : q2 = 17 + 22 * (1 - c) := by omega
  rw [← hq] at F0 E0 S0
  rw [← hq3] at F1 E1
  have dz : ∀ j, u * 16 ≤ j → j < u * 16 + 16 → x (q + 3) j = 0 := fun j h1 h2 => Classical.byContradiction (fun w => hb ⟨j / 4 - u * 4, by omega, Or.inr (Or.inr (by
    rcases Nat.eq_zero_or_pos (p_cnt (fun i => x (q + 3) ((u * 4 + (j / 4 - u * 4)) * 4 + i)) 4) with hz | hz
    · have := (p_cnt_zero 4).mp hz (j % 4) (by omega)
      rw [show (u * 4 + (j / 4 - u * 4)) * 4 + j % 4 = j by omega] at this
      exact absurd this w
    · exact hz))⟩)
  obtain ⟨hD, hL, hT, hC, hF, hE, hI, hS, hW⟩ := h
  have po : ∀ a b, ¬ ((a = q ∨ a = q2) ∧ b = 11) ∧ ¬ ((a = q + 2 ∨ a = q + 3 ∨ a = q2 + 7 ∨ a = q2 + 8) ∧ u * 16 ≤ b ∧ b < u * 16 + 16) → p_move x q q2 u a b = x a b := fun a b w => p_move_off w
  have ko : ∀ a b, (a ≠ 69 ∧ ¬ (a = 70 ∧ 32 * c + 16 * u ≤ b ∧ b < 32 * c + (16 * u + 16)) ∧ ¬ (a = 74 ∧ 32 * (1 - c) + 16 * u ≤ b ∧ b < 32 * (1 - c) + (16 * u + 16))) → k_move y c u a b = y a b := fun a b w => k_move_off w
  have k69 : ∀ b, k_move y c u 69 b = if b = 2 * (1 - c) + u then 1 else if b = 2 * c + u then 0 else y 69 b := fun b => by
    unfold k_move
    by_cases h1 : b = 2 * (1 - c) + u
    · rw [if_pos h1, h1, tw_on]
    · rw [if_neg h1, tw_off (by omega)]
      by_cases h2 : b = 2 * c + u
      · rw [if_pos h2, h2, tw_on]
      · rw [if_neg h2, tw_off (by omega), k_mv0, if_neg (by omega), if_neg (by omega)]
  have p11 : p_move x q q2 u q 11 = x q 11 &&& (1 <<< (nI u &&& 31) ^^^ -1) := by
    unfold p_move
    rw [p_dv, if_neg (by omega), p_dv, if_neg (by omega), tw_off (by omega), tw_on]
  have p12 : p_move x q q2 u q2 11 = x q2 11 ||| 1 <<< (nI u &&& 31) := by
    unfold p_move
    rw [p_dv, if_neg (by omega), p_dv, if_neg (by omega), tw_on]
  refine ⟨rD_ext (fun a b w => po a b (by omega)) (fun a b w => ko a b (by omega)) hD, rL_ext (fun a b w => po a b (by omega)) (fun a b w => ko a b (by omega)) hL, rT_ext (fun a b w => po a b (by omega)) (fun a b w => ko a b (by omega)) hT, by rw [po _ _ (by omega), ko _ _ (by omega)]; exact hC, ?_, ?_, fun c2 hc2 => rI_ext (Nat.le_refl _) (fun a b w => po a b (by omega)) (fun a b w => ko a b (by omega)) (hI c2 hc2), ?_, fun c2 hc2 => rW_ext (fun b => po _ _ (by omega)) (fun a w => ko a _ (by omega)) (hW c2 hc2)⟩
  · intro c2 hc2
    by_cases he : c2 = c
    · subst he
      rw [← hq]
      obtain ⟨f1, f2, f3, f4, f5, f6, f7, f8, f9, f10, f11, f12, f13, f14⟩ := F0
      unfold rF
      rw [po q 0 (by omega), po q 6 (by omega), po q 7 (by omega), po q 8 (by omega), po q 9 (by omega), po q 10 (by omega), po q 12 (by omega), po q 13 (by omega), po q 14 (by omega), po q 15 (by omega), po q 16 (by omega), po q 17 (by omega), po q 18 (by omega), p11, ko 66 c2 (by omega), ko 68 c2 (by omega), ko 84 c2 (by omega), ko 94 c2 (by omega), ko 67 c2 (by omega), ko 95 c2 (by omega), ko 96 c2 (by omega), ko 85 c2 (by omega), ko 86 c2 (by omega)]
      refine ⟨f1, f2, f3, f4, f5, f6, ?_, ?_, ?_, ?_, f11, f12, f13, f14⟩
      · rw [f7, b_clr (by omega) hu]
        refine b_congr 2 (fun j hj => ?_)
        simp only [k69]
        by_cases hj2 : j = u
        · subst hj2
          rw [if_pos rfl, if_neg (by omega), if_pos rfl]
        · rw [if_neg hj2, if_neg (by omega), if_neg (by omega)]
      · rw [f8]; exact b_congr 8 (fun j hj => by simp only [ko 77 (8 * c2 + j) (by omega)])
      · rw [f9]; exact b_congr 8 (fun j hj => by simp only [ko 78 (8 * c2 + j) (by omega)])
      · rw [f10]; exact b_congr 8 (fun j hj => by simp only [ko 79 (8 * c2 + j) (by omega)])
    · obtain rfl : c2 = 1 - c := by omega
      rw [← hq3]
      obtain ⟨f1, f2, f3, f4, f5, f6, f7, f8, f9, f10, f11, f12, f13, f14⟩ := F1
      unfold rF
      rw [po q2 0 (by omega), po q2 6 (by omega), po q2 7 (by omega), po q2 8 (by omega), po q2 9 (by omega), po q2 10 (by omega), po q2 12 (by omega), po q2 13 (by omega), po q2 14 (by omega), po q2 15 (by omega), po q2 16 (by omega), po q2 17 (by omega), po q2 18 (by omega), p12, ko 66 (1 - c) (by omega), ko 68 (1 - c) (by omega), ko 84 (1 - c) (by omega), ko 94 (1 - c) (by omega), ko 67 (1 - c) (by omega), ko 95 (1 - c) (by omega), ko 96 (1 - c) (by omega), ko 85 (1 - c) (by omega), ko 86 (1 - c) (by omega)]
      refine ⟨f1, f2, f3, f4, f5, f6, ?_, ?_, ?_, ?_, f11, f12, f13, f14⟩
      · rw [f7, b_set (by omega) hu]
        refine b_congr 2 (fun j hj => ?_)
        simp only [k69]
        by_cases hj2 : j = u
        · subst hj2
          rw [if_pos rfl, if_pos rfl]
        · rw [if_neg hj2, if_neg (by omega), if_neg (by omega)]
      · rw [f8]; exact b_congr 8 (fun j hj => by simp only [ko 77 (8 * (1 - c) + j) (by omega)])
      · rw [f9]; exact b_congr 8 (fun j hj => by simp only [ko 78 (8 * (1 - c) + j) (by omega)])
      · rw [f10]; exact b_congr 8 (fun j hj => by simp only [ko 79 (8 * (1 - c) + j) (by omega)])
  · intro c2 hc2
    by_cases he : c2 = c
    · subst he
      rw [← hq]
      intro j hj
      obtain ⟨e1, e2, e3, e4, e5, e6⟩ := E0 j hj
      by_cases hv : u * 16 ≤ j ∧ j < u * 16 + 16
      · have z2 : p_move x q q2 u (q + 2) j = 0 := by
          unfold p_move
          rw [p_dv, if_neg (by omega), p_dv, if_pos (by omega)]
        have z3 : p_move x q q2 u (q + 3) j = 0 := by
          unfold p_move
          rw [p_dv, if_neg (by omega), p_dv, if_pos (by omega)]
        have y70 : k_move y c2 u 70 (32 * c2 + j) = 0 := by
          unfold k_move
          rw [tw_off (by omega), tw_off (by omega), k_mv0, if_pos (by omega)]
        rw [z2, z3, y70, po (q + 7) j (by omega), po (q + 9) j (by omega), po (q + 10) j (by omega), ko 73 _ (by omega), ko 74 _ (by omega), ko 75 _ (by omega), ko 76 _ (by omega), e2]
        exact ⟨rfl, dz j hv.1 hv.2, fun w => absurd rfl w, fun w => absurd rfl w, e5, e6⟩
      · rw [po (q + 2) j (by omega), po (q + 3) j (by omega), po (q + 4) j (by omega), po (q + 5) j (by omega), po (q + 7) j (by omega), po (q + 9) j (by omega), po (q + 10) j (by omega), ko 70 _ (by omega), ko 71 _ (by omega), ko 72 _ (by omega), ko 73 _ (by omega), ko 74 _ (by omega), ko 75 _ (by omega), ko 76 _ (by omega)]
        exact ⟨e1, e2, e3, e4, e5, e6⟩
    · obtain rfl : c2 = 1 - c := by omega
      rw [← hq3]
      intro j hj
      obtain ⟨e1, e2, e3, e4, e5, e6⟩ := E1 j hj
      by_cases hv : u * 16 ≤ j ∧ j < u * 16 + 16
      · have z7 : p_move x q q2 u (q2 + 7) j = 0 := by
          unfold p_move
          rw [p_dv, if_pos (by omega)]
        have y74 : k_move y c u 74 (32 * (1 - c) + j) = 0 := by
          unfold k_move
          rw [tw_off (by omega), tw_off (by omega), k_mv0, if_neg (by omega), if_pos (by omega)]
        rw [z7, y74, po (q2 + 2) j (by omega), po (q2 + 3) j (by omega), po (q2 + 4) j (by omega), po (q2 + 5) j (by omega), ko 70 _ (by omega), ko 71 _ (by omega), ko 72 _ (by omega), ko 73 _ (by omega)]
        exact ⟨e1, e2, e3, e4, rfl, fun w => absurd rfl w⟩
      · rw [po (q2 + 2) j (by omega), po (q2 + 3) j (by omega), po (q2 + 4) j (by omega), po (q2 + 5) j (by omega), po (q2 + 7) j (by omega), po (q2 + 9) j (by omega), po (q2 + 10) j (by omega), ko 70 _ (by omega), ko 71 _ (by omega), ko 72 _ (by omega), ko 73 _ (by omega), ko 74 _ (by omega), ko 75 _ (by omega), ko 76 _ (by omega)]
        exact ⟨e1, e2, e3, e4, e5, e6⟩
  · intro c2 hc2
    by_cases he : c2 = c
    · subst he
      rw [← hq]
      refine rS_ext (fun a b w => po a b (by omega)) (fun b hb2 w => ?_) (fun a b w => ko a b (by omega)) S0
      by_cases hv : u * 16 ≤ b ∧ b < u * 16 + 16
      · exact absurd (dz b hv.1 hv.2) w
      · rw [po _ _ (by omega)]
        exact w
    · exact rS_ext (fun a b w => po a b (by omega)) (fun b _ w => by rw [po _ _ (by omega)]; exact w) (fun a b w => ko a b (by omega)) (hS c2 hc2)
theorem c_moveOwner {fl : Bool} {d e tm : Nat} {f : tw_S} (h : rR f f tm) (x : Int32) : tS fl (d + 3) 94 [tw_R 0, tw_I x] f (rC fl (e + 2) 148 [tw_I x]) := by
  obtain g | g | ⟨u, hu, rfl⟩ := pk_ix x (n := 2) (by omega)
  · exact s_moveOwner_x (Or.inl g) ⟨_, rfl, s_m_moveOwner_x rfl (Or.inl g) ⟨rfl, tm, rR_same h⟩⟩
  · exact s_moveOwner_x (Or.inr g) ⟨_, rfl, s_m_moveOwner_x rfl (Or.inr g) ⟨rfl, tm, rR_same h⟩⟩
  · have F0 := h.2.2.2.2.1 0 (by omega)
    have F1 := h.2.2.2.2.1 1 (by omega)
    obtain ⟨_, m0, _, m0b, _, i0, y0, _⟩ := h.2.2.2.2.2.2.1 0 (by omega)
    obtain ⟨_, m1, _, m1b, _, i1, y1, _⟩ := h.2.2.2.2.2.2.1 1 (by omega)
    have com : ∀ z : tw_S, (∀ a b, 61 ≤ a → z a b = f a b) → ∃ g, tw_up z 61 0 0 = g ∧ rR f g tm ∧ (∀ a b, a < 61 → g a b = z a b) ∧ g 98 0 = nI m0 ∧ g 98 1 = nI m1 ∧ (∀ c, c < 2 → g 87 c = -1 ∨ ∃ s, s < 8 ∧ g 87 c = nI s) ∧ ((¬ f 17 6 = 0 ∧ ¬ f 39 6 = 0 ∧ ¬ f 17 7 = 0 ∧ ¬ f 39 7 = 0) ↔ (¬ g 66 0 = 0 ∧ ¬ g 66 1 = 0 ∧ ¬ g 68 0 = 0 ∧ ¬ g 68 1 = 0)) ∧ (p_bit (f 17 11) u ↔ ¬ g 69 u = 0) ∧ (p_bit (f 39 11) u ↔ ¬ g 69 (2 + u) = 0) ∧ (p_busy f 17 u ↔ (k_busy g 0 u (16 * u + 16) ∨ k_busy2 g 0 u)) ∧ (p_busy f 39 u ↔ (k_busy g 1 u (16 * u + 16) ∨ k_busy2 g 1 u)) := by
      intro z zo
      have h2 := rR_g h zo
      refine ⟨_, rfl, h2, fun a b u => tw_off (by omega), by rw [tw_off (by omega), zo _ _ (by omega)]; exact y0, by rw [tw_off (by omega), zo _ _ (by omega)]; exact y1, ?_⟩
      generalize tw_up z 61 0 0 = g at h2
      obtain ⟨hD, hL, hT, hC, hF, hE, hI, hS, hW⟩ := h2
      have F0 := hF 0 (by omega)
      have F1 := hF 1 (by omega)
      refine ⟨fun c hc => ?_, ?_, ?_, ?_, r_busy hu F0 (hE 0 (by omega)) (hS 0 (by omega)), r_busy hu F1 (hE 1 (by omega)) (hS 1 (by omega))⟩
      · obtain ⟨s1, s2⟩ := hS c hc
        rw [s1]
        rcases s2 with s2 | ⟨s, a1, a2, _⟩
        · exact Or.inl s2
        · exact Or.inr ⟨s, a1, a2⟩
      · rw [F0.2.1, F1.2.1, F0.2.2.1, F1.2.2.1]
      · have := r_own F0 hu
        rw [show 2 * 0 + u = u by omega] at this
        exact this
      · have := r_own F1 hu
        rw [show 2 * 1 + u = 2 + u by omega] at this
        exact this
    have iffn : ∀ {p q r s : Prop}, (p ↔ ¬ r) → (q ↔ ¬ s) → ((p ↔ q) ↔ (r ↔ s)) := by
      intro p q r s h1 h2
      rw [h1, h2]
      exact ⟨fun w => ⟨fun a => Classical.byContradiction (fun b => w.mpr b a), fun a => Classical.byContradiction (fun b => w.mp b a)⟩, fun w => ⟨fun a b => a (w.mpr b), fun a b => a (w.mp b)⟩⟩
    refine s_moveOwner_u hu F0.1 F1.1 i0 m0b i1 m1b (fun v => ⟨_, rfl, ?_⟩) (fun v v2 => ⟨_, rfl, ?_⟩) (fun v v2 v3 => ⟨_, rfl, ?_⟩) (fun v v2 v3 v4 v5 => ⟨_, rfl, ?_⟩) (fun v v2 v3 v4 v5 => ⟨_, rfl, ?_⟩) (fun v v2 v3 v4 v5 => ⟨_, rfl, ?_⟩) (fun v v2 v3 v4 v5 => ⟨_, rfl, ?_⟩)
    · obtain ⟨g, hg, h2, gl, k0, k1, hst, hall, o0, o1, u0, u1⟩ := com f (fun _ _ _ => rfl)
      exact s_m_moveOwner_u hg hu k0 m0b k1 m1b hst (fun _ => ⟨rfl, tm, rR_glue h2 (fun a b w => gl a b w)⟩) (fun w => absurd (hall.mpr w) v) (fun w => absurd (hall.mpr w) v) (fun w => absurd (hall.mpr w) v)
    · obtain ⟨g, hg, h2, gl, k0, k1, hst, hall, o0, o1, u0, u1⟩ := com f (fun _ _ _ => rfl)
      have hi := (iffn o0 o1).mp v2
      exact s_m_moveOwner_u hg hu k0 m0b k1 m1b hst (fun w => absurd (hall.mp v) w) (fun _ _ => ⟨rfl, tm, rR_glue h2 (fun a b w => gl a b w)⟩) (fun _ w => absurd hi w) (fun _ _ w => absurd hi w)
    · obtain ⟨g, hg, h2, gl, k0, k1, hst, hall, o0, o1, u0, u1⟩ := com f (fun _ _ _ => rfl)
      have hi : ¬ (g 69 u = 0 ↔ g 69 (2 + u) = 0) := fun w => v2 ((iffn o0 o1).mpr w)
      exact s_m_moveOwner_u hg hu k0 m0b k1 m1b hst (fun w => absurd (hall.mp v) w) (fun _ w => absurd w hi) (fun _ _ _ => ⟨rfl, tm, rR_glue h2 (fun a b w => gl a b w)⟩) (fun _ w => absurd w v3)
    · obtain ⟨g, hg, h2, gl, k0, k1, hst, hall, o0, o1, u0, u1⟩ := com f (fun _ _ _ => rfl)
      have n1 : g 69 (2 + u) = 0 := Classical.byContradiction (fun w => v4 (o1.mpr w))
      have hi : ¬ (g 69 u = 0 ↔ g 69 (2 + u) = 0) := fun w => o0.mp v3 (w.mpr n1)
      refine s_m_moveOwner_u hg hu k0 m0b k1 m1b hst (fun w => absurd (hall.mp v) w) (fun _ w => absurd w hi) (fun _ _ w => absurd v2 w) (fun _ _ _ c hcc => ?_)
      rcases hcc with ⟨_, rfl⟩ | ⟨w, _⟩
      · exact ⟨fun _ => ⟨rfl, tm, rR_glue h2 (fun a b w => gl a b w)⟩, fun w => absurd (u0.mp v5) w⟩
      · exact absurd n1 w
    · obtain ⟨g, hg, h2, gl, k0, k1, hst, hall, o0, o1, u0, u1⟩ := com (p_move f 17 39 u) (fun a b w => p_move_off (by omega))
      have n1 : g 69 (2 + u) = 0 := Classical.byContradiction (fun w => v4 (o1.mpr w))
      have hi : ¬ (g 69 u = 0 ↔ g 69 (2 + u) = 0) := fun w => o0.mp v3 (w.mpr n1)
      refine s_m_moveOwner_u hg hu k0 m0b k1 m1b hst (fun w => absurd (hall.mp v) w) (fun _ w => absurd w hi) (fun _ _ w => absurd v2 w) (fun _ _ _ c hcc => ?_)
      rcases hcc with ⟨_, rfl⟩ | ⟨w, _⟩
      · exact ⟨fun w => absurd (u0.mpr w) v5, fun _ => ⟨rfl, tm, rR_glue (rR_move (c := 0) h2 (by omega) rfl rfl hu v5) (fun a b w => by rw [k_move_off (by omega), gl a b w])⟩⟩
      · exact absurd n1 w
    · obtain ⟨g, hg, h2, gl, k0, k1, hst, hall, o0, o1, u0, u1⟩ := com f (fun _ _ _ => rfl)
      have n1 : ¬ g 69 (2 + u) = 0 := o1.mp v4
      have n0 : g 69 u = 0 := Classical.byContradiction (fun w => v3 (o0.mpr w))
      have hi : ¬ (g 69 u = 0 ↔ g 69 (2 + u) = 0) := fun w => n1 (w.mp n0)
      refine s_m_moveOwner_u hg hu k0 m0b k1 m1b hst (fun w => absurd (hall.mp v) w) (fun _ w => absurd w hi) (fun _ _ w => absurd v2 w) (fun _ _ _ c hcc => ?_)
      rcases hcc with ⟨w, _⟩ | ⟨_, rfl⟩
      · exact absurd w n1
      · exact ⟨fun _ => ⟨rfl, tm, rR_glue h2 (fun a b w => gl a b w)⟩, fun w => absurd (u1.mp v5) w⟩
    · obtain ⟨g, hg, h2, gl, k0, k1, hst, hall, o0, o1, u0, u1⟩ := com (p_move f 39 17 u) (fun a b w => p_move_off (by omega))
      have n1 : ¬ g 69 (2 + u) = 0 := o1.mp v4
      have n0 : g 69 u = 0 := Classical.byContradiction (fun w => v3 (o0.mpr w))
      have hi : ¬ (g 69 u = 0 ↔ g 69 (2 + u) = 0) := fun w => n1 (w.mp n0)
      refine s_m_moveOwner_u hg hu k0 m0b k1 m1b hst (fun w => absurd (hall.mp v) w) (fun _ w => absurd w hi) (fun _ _ w => absurd v2 w) (fun _ _ _ c hcc => ?_)
      rcases hcc with ⟨w, _⟩ | ⟨_, rfl⟩
      · exact absurd w n1
      · exact ⟨fun w => absurd (u1.mpr w) v5, fun _ => ⟨rfl, tm, rR_glue (rR_move (c := 1) h2 (by omega) rfl rfl hu v5) (fun a b w => by rw [k_move_off (by omega), gl a b w])⟩⟩
