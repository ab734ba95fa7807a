/-! The steps, part 2: destaging. -/
theorem p_fin_up {f : tw_S} {a i : Nat} {v x y w : Int32} (h : a < 6 ∨ 11 < a) : p_fin (tw_up f a i v) x y w = tw_up (p_fin f x y w) a i v := by
  have e : ∀ b j, (6 ≤ b ∧ b ≤ 11) → tw_up f a i v b j = f b j := fun b j hb => tw_off (by omega)
  funext q j
  unfold p_fin
  rw [e 6 5 (by omega), e 9 j (by omega), e 10 j (by omega), e 11 j (by omega), e 7 j (by omega)]
  by_cases h1 : q = a ∧ j = i
  · rw [if_neg (by omega), h1.1, h1.2, tw_on, tw_on]
  · rw [tw_off h1, tw_off h1]
theorem p_send_up {f : tw_S} {a i q : Nat} {v k p v2 w t : Int32} (h : ¬ (q + 11 ≤ a ∧ a ≤ q + 16) ∧ a ≠ 0) : p_send (tw_up f a i v) q k p v2 w t = tw_up (p_send f q k p v2 w t) a i v := by
  have e0 : tw_up f a i v 0 5 = f 0 5 := tw_off (by omega)
  have e5 : tw_up f a i v (q + 11) 5 = f (q + 11) 5 := tw_off (by omega)
  have e6 : tw_up f a i v (q + 11) 6 = f (q + 11) 6 := tw_off (by omega)
  unfold p_send p_sl
  rw [e0, e5, e6]
  generalize ((f (q + 11) 5).toNatClampNeg + (f (q + 11) 6).toNatClampNeg) % 40 = sl
  split
  · funext b j
    by_cases h1 : b = a ∧ j = i
    · rw [h1.1, h1.2, tw_on, tw_off (by omega), tw_off (by omega), tw_off (by omega), tw_off (by omega), tw_off (by omega), tw_off (by omega), tw_on]
    · rw [tw_off (q := a) h1]
      simp only [tw_up]
      (repeat' split) <;> first | rfl | omega
  · rfl
theorem k_fin_up {f : tw_S} {a i m : Nat} {v x y w : Int32} (h : a < 99 ∨ 103 < a) : k_fin (tw_up f a i v) x y w m = tw_up (k_fin f x y w m) a i v := by
  have e : ∀ b j, (99 ≤ b ∧ b ≤ 103) → tw_up f a i v b j = f b j := fun b j hb => tw_off (by omega)
  funext q j
  unfold k_fin
  rw [e 101 j (by omega), e 99 j (by omega), e 102 j (by omega), e 103 j (by omega)]
  by_cases h1 : q = a ∧ j = i
  · rw [if_neg (by omega), h1.1, h1.2, tw_on, tw_on]
  · rw [tw_off h1, tw_off h1]
theorem k_send_up {f : tw_S} {a i c : Nat} {v s b e g t : Int32} (h : a ≠ 97 ∧ a ≠ 98 ∧ a ≠ 61) : k_send (tw_up f a i v) c s b e g t = tw_up (k_send f c s b e g t) a i v := by
  have e0 : tw_up f a i v 61 38 = f 61 38 := tw_off (by omega)
  have e5 : tw_up f a i v 98 (1 - c) = f 98 (1 - c) := tw_off (by omega)
  unfold k_send k_at
  rw [e0, e5]
  generalize 200 * (1 - c) + 5 * (f 98 (1 - c)).toNatClampNeg = at0
  split
  · funext q j
    by_cases h1 : q = a ∧ j = i
    · rw [h1.1, h1.2, tw_on, tw_off (by omega), tw_off (by omega), tw_off (by omega), tw_off (by omega), tw_off (by omega), tw_off (by omega), tw_on]
    · rw [tw_off (q := a) h1]
      simp only [tw_up]
      (repeat' split) <;> first | rfl | omega
  · rfl
theorem tw_comm {f : tw_S} {a i b j : Nat} {x y : Int32} (h : a ≠ b) : tw_up (tw_up f a i x) b j y = tw_up (tw_up f b j y) a i x := by
  funext q k
  simp only [tw_up]
  (repeat' split) <;> first | rfl | omega
theorem p_rel_up {f : tw_S} {q k : Nat} {v w : Int32} (hq : q = 17 ∨ q = 39) : p_rel (tw_up f (q + 17) 3 v) q k w = tw_up (p_rel f q k w) (q + 17) 3 v := by
  have e : ∀ a b, a ≠ q + 17 → tw_up f (q + 17) 3 v a b = f a b := fun a b u => tw_off (by omega)
  unfold p_rel
  rw [e q 7 (by omega), e (q + 2) k (by omega), e (q + 5) k (by omega), e q 0 (by omega)]
  split
  · split
    · rw [tw_comm (by omega), p_fin_up (by omega)]
    · rw [p_fin_up (by omega)]
  · split
    · rw [tw_comm (by omega), p_send_up (by omega)]
    · rfl
theorem k_rel_up {f : tw_S} {c k : Nat} {v w : Int32} : k_rel (tw_up f 87 c v) c k w = tw_up (k_rel f c k w) 87 c v := by
  have e : ∀ a b, a ≠ 87 → tw_up f 87 c v a b = f a b := fun a b u => tw_off (by omega)
  unfold k_rel
  rw [e 68 c (by omega), e 70 _ (by omega), e 73 _ (by omega), e 72 _ (by omega), e 61 39 (by omega)]
  split
  · split
    · rw [tw_comm (by omega), k_fin_up (by omega)]
    · rw [k_fin_up (by omega)]
  · split
    · rw [tw_comm (by omega), k_send_up (by omega)]
    · rfl
theorem p_fd_up {f : tw_S} {q s : Nat} {v : Int32} (hq : q = 17 ∨ q = 39) : ∀ i, p_fd (tw_up f (q + 17) 3 v) q s i = tw_up (p_fd f q s i) (q + 17) 3 v
  | 0 => rfl
  | i + 1 => by
    have ih := p_fd_up (f := f) (s := s) (v := v) hq i
    unfold p_fd
    rw [tw_off (by omega), tw_off (by omega), ih, p_rel_up hq]
    split <;> rfl
theorem k_fd_up {f : tw_S} {c s : Nat} {v : Int32} : ∀ i, k_fd (tw_up f 87 c v) c s i = tw_up (k_fd f c s i) 87 c v
  | 0 => rfl
  | i + 1 => by
    have ih := k_fd_up (f := f) (c := c) (s := s) (v := v) i
    unfold k_fd
    rw [tw_off (by omega), tw_off (by omega), ih, k_rel_up]
    split <;> rfl
theorem rR_fin {x y : tw_S} {tm c : Nat} {b : Nat} {w : Int32} (h : rR x y tm) : rR (p_fin x (nI c) (nI b) w) (k_fin y (nI c) (nI b) w tm) tm := by
  obtain ⟨t1, t2, t3, t4⟩ := h.2.2.1
  refine rR_setT h (Nat.le_refl _) (fun a b u => by rw [p_fin, if_neg (by omega)]) (fun a b u => by rw [k_fin, if_neg (by omega)]) ?_
  have po : ∀ a i, a ≠ 7 → p_fin x (nI c) (nI b) w a i = x a i := fun a i u => by rw [p_fin, if_neg (fun v => u v.1)]
  have ko : ∀ a i, a ≠ 99 → k_fin y (nI c) (nI b) w tm a i = y a i := fun a i u => by rw [k_fin, if_neg (fun v => u v.1)]
  refine ⟨t1, by rw [po _ _ (by omega)]; exact t2, by rw [ko _ _ (by omega)]; exact t3, fun t ht => ?_⟩
  obtain ⟨a1, a2, a3⟩ := t4 t ht
  rw [po 8 t (by omega), po 9 t (by omega), po 10 t (by omega), po 11 t (by omega), ko 100 t (by omega), ko 101 t (by omega), ko 102 t (by omega), ko 103 t (by omega), p_fin, k_fin, t2, nI_clamp (by omega), a1]
  by_cases h7 : x 7 t = 0
  · obtain ⟨b1, b2, b3⟩ := a3 h7
    rw [b1, b2, b3]
    by_cases hcnd : x 9 t = nI c ∧ x 10 t = nI b ∧ ¬ w < x 11 t
    · rw [if_pos ⟨rfl, ht, hcnd.1, h7, hcnd.2.1, hcnd.2.2⟩, if_pos ⟨rfl, ht, hcnd.1, hcnd.2.1, hcnd.2.2, h7⟩]
      exact ⟨rfl, a2, fun u => absurd u (by decide)⟩
    · rw [if_neg (fun u => hcnd ⟨u.2.2.1, u.2.2.2.2.1, u.2.2.2.2.2⟩), if_neg (fun u => hcnd ⟨u.2.2.1, u.2.2.2.1, u.2.2.2.2.1⟩)]
      exact ⟨rfl, a2, fun _ => ⟨rfl, rfl, rfl⟩⟩
  · rw [if_neg (fun u => h7 u.2.2.2.1), if_neg (fun u => h7 u.2.2.2.2.2)]
    exact ⟨rfl, a2, fun u => absurd u h7⟩
theorem rR_clean {x y : tw_S} {tm c q k : Nat} (h : rR x y tm) (hc : c < 2) (hq : q = 17 + 22 * c) (hk : k < 32) (hst : x (q + 17) 3 = -1) : rR (tw_up x (q + 3) k 0) (tw_up y 73 (32 * c + k) 0) tm := by
  have hE := h.2.2.2.2.2.1 c hc
  rw [← hq] at hE
  refine rR_setE h hc hq (fun a b u => tw_off (by omega)) (fun a b u => tw_off (by omega)) (Or.inl hst) (fun j hj => ?_)
  obtain ⟨e1, e2, e3, e4, e5, e6⟩ := hE j hj
  have xo : ∀ a, a ≠ q + 3 → tw_up x (q + 3) k 0 a j = x a j := fun a ha => tw_off (by omega)
  have yo : ∀ a, a ≠ 73 → tw_up y 73 (32 * c + k) 0 a (32 * c + j) = y a (32 * c + j) := fun a ha => tw_off (by omega)
  rw [xo (q + 2) (by omega), xo (q + 4) (by omega), xo (q + 5) (by omega), xo (q + 7) (by omega), xo (q + 9) (by omega), xo (q + 10) (by omega), yo 70 (by omega), yo 71 (by omega), yo 72 (by omega), yo 74 (by omega), yo 75 (by omega), yo 76 (by omega)]
  by_cases hjk : j = k
  · subst hjk
    rw [tw_on, tw_on]
    exact ⟨e1, rfl, fun u => absurd rfl u, e4, e5, e6⟩
  · rw [tw_off (by omega), tw_off (by omega)]
    exact ⟨e1, e2, e3, e4, e5, e6⟩
theorem rR_rel {x y : tw_S} {tm c q k : Nat} {w : Int32} (h : rR x y tm) (hc : c < 2) (hq : q = 17 + 22 * c) (hk : k < 32) (hst : x (q + 17) 3 = -1) (hd : ¬ x (q + 3) k = 0) : rR (p_rel x q k w) (k_rel y c k w) tm := by
  have hF := h.2.2.2.2.1 c hc
  have hE := h.2.2.2.2.2.1 c hc
  rw [← hq] at hF hE
  obtain ⟨e1, e2, e3, e4, e5, e6⟩ := hE k hk
  have hcnd : (¬ y 70 (32 * c + k) = 0 ∧ ¬ y 73 (32 * c + k) = 0 ∧ y 72 (32 * c + k) = w) ↔ (¬ x (q + 2) k = 0 ∧ x (q + 5) k = w) := by
    rw [e1, e2, (e4 (e3 hd)).2]
    exact ⟨fun u => ⟨u.1, u.2.2⟩, fun u => ⟨u.1, hd, u.2⟩⟩
  have t3 : (y 61 39).toNatClampNeg = tm := by rw [h.2.2.1.2.2.1]; exact nI_clamp (by have := h.2.2.1.1; omega)
  unfold p_rel k_rel
  rw [hF.2.2.1, hF.1, t3]
  by_cases hp : x q 7 = 0
  · rw [if_pos hp, if_pos hp]
    by_cases hv : ¬ x (q + 2) k = 0 ∧ x (q + 5) k = w
    · rw [if_pos hv, if_pos (hcnd.mpr hv)]
      exact rR_fin (rR_clean h hc hq hk hst)
    · rw [if_neg hv, if_neg (fun u => hv (hcnd.mp u))]
      exact rR_fin h
  · rw [if_neg hp, if_neg hp]
    by_cases hv : ¬ x (q + 2) k = 0 ∧ x (q + 5) k = w
    · rw [if_pos hv, if_pos (hcnd.mpr hv)]
      exact rR_send (rR_clean h hc hq hk hst) hc (by omega) ⟨rfl, Or.inr (Or.inr (Or.inl ⟨rfl, ⟨k, hk, rfl⟩, rfl, rfl⟩))⟩
    · rw [if_neg hv, if_neg (fun u => hv (hcnd.mp u))]
      exact h
theorem p_rel_dirty {f : tw_S} {q k j : Nat} {w : Int32} (hq : q = 17 ∨ q = 39) (h : j ≠ k) : p_rel f q k w (q + 3) j = f (q + 3) j := by
  unfold p_rel
  split
  · rw [p_fin, if_neg (by omega)]
    split
    · exact tw_off (by omega)
    · rfl
  · split
    · rw [p_send_off (by omega)]
      exact tw_off (by omega)
    · rfl
theorem p_fd_dirty {f : tw_S} {q s j : Nat} (hq : q = 17 ∨ q = 39) : ∀ i, s * 4 + i ≤ j → p_fd f q s i (q + 3) j = f (q + 3) j
  | 0, _ => rfl
  | i + 1, h => by
    unfold p_fd
    split
    · exact p_fd_dirty hq i (by omega)
    · rw [p_rel_dirty hq (by omega)]
      exact p_fd_dirty hq i (by omega)
theorem rR_fd {x y : tw_S} {tm c q s : Nat} (h : rR x y tm) (hc : c < 2) (hq : q = 17 + 22 * c) (hs : s < 8) (hst : x (q + 17) 3 = -1) (ht : ∀ i, i < 4 → y 89 (4 * c + i) = x (q + 18) i ∧ (¬ x (q + 18) i = 0 → y 91 (4 * c + i) = x (q + 20) i ∧ ¬ x (q + 3) (s * 4 + i) = 0)) : ∀ i, i ≤ 4 → rR (p_fd x q s i) (k_fd y c s i) tm
  | 0, _ => h
  | i + 1, hi => by
    have hq2 : q = 17 ∨ q = 39 := by omega
    have ih := rR_fd h hc hq hs hst ht i (by omega)
    obtain ⟨t1, t2⟩ := ht i (by omega)
    unfold p_fd k_fd
    rw [t1]
    by_cases h0 : x (q + 18) i = 0
    · rw [if_pos h0, if_pos h0]
      exact ih
    · obtain ⟨t3, t4⟩ := t2 h0
      rw [if_neg h0, if_neg h0, t3, show 4 * s + i = s * 4 + i by omega]
      exact rR_rel ih hc hq (by omega) (by rw [p_fd_off hq2 (by omega)]; exact hst) (by rw [p_fd_dirty hq2 i (by omega)]; exact t4)
/-- the destaging is over -/
theorem rR_done {x y x1 y1 : tw_S} {tm c q s : Nat} (h : rR x y tm) (hc : c < 2) (hq : q = 17 + 22 * c) (hs : s < 8) (hst : x (q + 17) 3 = nI s) (hx : ∀ a b, ¬ (a = q + 17 ∧ b ≠ 3) → x1 a b = x a b) (hy : ∀ a b, ¬ (a = 88 ∧ b = c) → y1 a b = y a b) : rR (tw_up (p_fd x1 q s 4) (q + 17) 3 (-1)) (tw_up (k_fd y1 c s 4) 87 c (-1)) tm := by
  have hq2 : q = 17 ∨ q = 39 := by omega
  have hS := h.2.2.2.2.2.2.2.1 c hc
  rw [← hq] at hS
  obtain ⟨s1, s2⟩ := hS
  rcases s2 with s2 | ⟨s', a1, a2, k, k1, k2, k3, k4, k5, k6, k7⟩
  · rw [hst] at s2
    exact absurd s2 (nI_m1 (by omega))
  · have := (nI_eq (by omega) (by omega)).mp (hst.symm.trans a2)
    subst this
    have h1 : rR (tw_up x1 (q + 17) 3 (-1)) (tw_up y1 87 c (-1)) tm := by
      refine rR_setS h hc hq (fun a b u => by rw [tw_off (by omega), hx a b (by omega)]) (fun a b u => by rw [tw_off (by omega), hy a b (by omega)]) ⟨by rw [tw_on, tw_on], Or.inl tw_on⟩
    rw [← p_fd_up hq2, ← k_fd_up]
    refine rR_fd h1 hc hq hs tw_on (fun i hi => ?_) 4 (Nat.le_refl _)
    obtain ⟨i1, i2⟩ := k5 i hi
    rw [tw_off (by omega), tw_off (by omega), tw_off (by omega), tw_off (by omega), tw_off (by omega), hx (q + 18) i (by omega), hx (q + 20) i (by omega), hx (q + 3) _ (by omega), hy 89 _ (by omega), hy 91 _ (by omega)]
    exact ⟨i1, fun u => ⟨(i2 u).2.1, (i2 u).2.2⟩⟩
/-- a block is written -/
theorem rR_dwrite {x y : tw_S} {tm c q s p : Nat} (h : rR x y tm) (hc : c < 2) (hq : q = 17 + 22 * c) (hs : s < 8) (hst : x (q + 17) 3 = nI s) (hp : p < 4) (ht : ¬ x (q + 18) p = 0) (h6 : x (q + 17) 6 = 0) : rR (p_wr (tw_up x (q + 17) 4 (nI (p + 1))) q (nI (p_dd s p)) (nI s) (x (q + 19) p) (x q 10)) (tw_up (k_begins y c (nI (p_dd s p)) (nI s) (y 90 (4 * c + p))) 88 c (nI (p + 1))) tm := by
  have hS := h.2.2.2.2.2.2.2.1 c hc
  rw [← hq] at hS
  obtain ⟨s1, s2⟩ := hS
  rcases s2 with s2 | ⟨s', a1, a2, k, k1, k2, k3, k4, k5, k6, k7⟩
  · rw [hst] at s2
    exact absurd s2 (nI_m1 (by omega))
  · have := (nI_eq (by omega) (by omega)).mp (hst.symm.trans a2)
    subst this
    have xo : ∀ a b, ¬ (a = q + 17 ∧ b = 4) → tw_up x (q + 17) 4 (nI (p + 1)) a b = x a b := fun a b u => tw_off (by omega)
    have yo : ∀ a b, ¬ (a = 88 ∧ b = c) → tw_up y 88 c (nI (p + 1)) a b = y a b := fun a b u => tw_off (by omega)
    have h1 : rR (tw_up x (q + 17) 4 (nI (p + 1))) (tw_up y 88 c (nI (p + 1))) tm := by
      refine rR_setS h hc hq (fun a b u => xo a b (by omega)) (fun a b u => yo a b (by omega)) ⟨by rw [xo _ _ (by omega), yo _ _ (by omega)]; exact s1, Or.inr ⟨s, hs, by rw [xo _ _ (by omega)]; exact hst, p + 1, by omega, tw_on, fun _ => ⟨tw_on, by rw [xo _ _ (by omega)]; exact h6⟩, fun u => by omega, fun i hi => ?_, by rw [xo _ _ (by omega), yo _ _ (by omega)]; exact k6, ?_⟩⟩
      · rw [xo (q + 18) i (by omega), xo (q + 19) i (by omega), xo (q + 20) i (by omega), xo (q + 3) _ (by omega), yo 89 _ (by omega), yo 90 _ (by omega), yo 91 _ (by omega)]
        exact k5 i hi
      · rw [xo _ _ (by omega), yo _ _ (by omega), p_x4_congr (g := tw_up x (q + 17) 4 (nI (p + 1)) (q + 19)) (g2 := x (q + 19)) 4 (fun j hj => xo _ _ (by omega))]
        exact k7
    have h2 := rR_begins (i := p_dd s p) (s := s) (v := x (q + 19) p) h1 hc hq (p_dd_lt hp) hs
    rw [xo q 10 (by omega)] at h2
    have e90 := ((k5 p hp).2 ht).1
    refine rR_ext (fun _ _ _ => rfl) (fun a b _ _ => ?_) h2
    rw [e90]
    unfold k_begins
    rw [yo 67 c (by omega)]
    simp only [tw_up]
    (repeat' split) <;> first | rfl | omega
/-- the parity is written -/
theorem rR_pwrite {x y : tw_S} {tm c q s : Nat} (h : rR x y tm) (hc : c < 2) (hq : q = 17 + 22 * c) (hs : s < 8) (hst : x (q + 17) 3 = nI s) (h5 : x (q + 17) 5 = 0) : rR (p_wr (tw_up (tw_up x (q + 17) 4 (nI 4)) (q + 17) 6 1) q (nI (p_pd s)) (nI s) (p_x4 (x (q + 19)) 4) (x q 10)) (k_begins (tw_up y 88 c (nI 5)) c (nI (p_pd s)) (nI s) (y 92 c)) tm := by
  have hS := h.2.2.2.2.2.2.2.1 c hc
  rw [← hq] at hS
  obtain ⟨s1, s2⟩ := hS
  rcases s2 with s2 | ⟨s', a1, a2, k, k1, k2, k3, k4, k5, k6, k7⟩
  · rw [hst] at s2
    exact absurd s2 (nI_m1 (by omega))
  · have := (nI_eq (by omega) (by omega)).mp (hst.symm.trans a2)
    subst this
    have xo : ∀ a b, ¬ (a = q + 17 ∧ (b = 4 ∨ b = 6)) → tw_up (tw_up x (q + 17) 4 (nI 4)) (q + 17) 6 1 a b = x a b := fun a b u => by rw [tw_off (by omega), tw_off (by omega)]
    have yo : ∀ a b, ¬ (a = 88 ∧ b = c) → tw_up y 88 c (nI 5) a b = y a b := fun a b u => tw_off (by omega)
    have h1 : rR (tw_up (tw_up x (q + 17) 4 (nI 4)) (q + 17) 6 1) (tw_up y 88 c (nI 5)) tm := by
      refine rR_setS h hc hq (fun a b u => xo a b (by omega)) (fun a b u => yo a b (by omega)) ⟨by rw [xo _ _ (by omega), yo _ _ (by omega)]; exact s1, Or.inr ⟨s, hs, by rw [xo _ _ (by omega)]; exact hst, 5, by omega, tw_on, fun u => by omega, fun _ => ⟨by rw [tw_off (by omega), tw_on], by rw [tw_on]; decide⟩, fun i hi => ?_, by rw [xo _ _ (by omega), yo _ _ (by omega)]; exact k6, ?_⟩⟩
      · rw [xo (q + 18) i (by omega), xo (q + 19) i (by omega), xo (q + 20) i (by omega), xo (q + 3) _ (by omega), yo 89 _ (by omega), yo 90 _ (by omega), yo 91 _ (by omega)]
        exact k5 i hi
      · rw [xo _ _ (by omega), yo _ _ (by omega), p_x4_congr (g := tw_up (tw_up x (q + 17) 4 (nI 4)) (q + 17) 6 1 (q + 19)) (g2 := x (q + 19)) 4 (fun j hj => xo _ _ (by omega))]
        exact k7
    have hpd : p_pd s < 5 := by unfold p_pd; omega
    have h2 := rR_begins (i := p_pd s) (s := s) (v := p_x4 (x (q + 19)) 4) h1 hc hq hpd hs
    rw [xo q 10 (by omega)] at h2
    rw [k7 h5]
    exact h2
/-! a stripe is taken -/
theorem p_bd_off {f : tw_S} {q s a b : Nat} (h : ¬ (q + 17 ≤ a ∧ a ≤ q + 20)) : ∀ i, p_bd f q s i a b = p_sip (tw_up f q 12 (f q 12 ||| 1 <<< (nI s &&& 31))) q 3 (nI s) 0 a b
  | 0 => by
    unfold p_bd p_db
    rw [if_neg (by omega), if_neg (by omega), if_neg (by omega)]
  | i + 1 => by
    unfold p_bd
    rw [p_td_off h]
    exact p_bd_off h i
theorem k_bd_off {f : tw_S} {c s a b : Nat} (h : ¬ ((87 ≤ a ∧ a ≤ 88 ∨ 92 ≤ a ∧ a ≤ 93) ∧ b = c) ∧ ¬ (89 ≤ a ∧ a ≤ 91 ∧ 4 * c ≤ b ∧ b < 4 * c + 4)) : ∀ i, i ≤ 4 → k_bd f c s i a b = k_sip (tw_up f 77 (8 * c + s) 1) c 3 (nI s) 0 a b
  | 0, _ => by
    unfold k_bd k_sip k_bd0
    rw [tw_off (by omega), tw_off (by omega), tw_off (by omega)]
    have e : tw_up (tw_up (tw_up f 87 c (nI s)) 88 c 0) 77 (8 * c + s) 1 = tw_up (tw_up (tw_up f 77 (8 * c + s) 1) 87 c (nI s)) 88 c 0 := by
      rw [tw_comm (f := tw_up f 87 c (nI s)) (by omega), tw_comm (f := f) (a := 87) (b := 77) (by omega)]
    rw [e]
    split
    · rw [tw_off (by omega), tw_off (by omega)]
    · rw [k_send_up (by omega), k_send_up (by omega), tw_off (by omega), tw_off (by omega)]
  | i + 1, hi => by
    have ih := k_bd_off (f := f) (s := s) h i (by omega)
    unfold k_bd
    rw [← ih]
    generalize k_bd f c s i = z
    unfold k_td
    split
    · rw [tw_off (by omega), tw_off (by omega), tw_off (by omega)]
    · rw [tw_off (by omega), tw_off (by omega), tw_off (by omega), tw_off (by omega)]
theorem p_x4_up {g : Nat → Int32} {i : Nat} {v : Int32} (n : Nat) (h : n ≤ i) : p_x4 (fun j => if j = i then v else g j) n = p_x4 g n := p_x4_congr n (fun j hj => if_neg (by omega))
theorem rS_bd {x y : tw_S} {tm c q s : Nat} (h : rR x y tm) (hc : c < 2) (hq : q = 17 + 22 * c) (hs : s < 8) : ∀ i, i ≤ 4 → p_bd x q s i (q + 17) 3 = nI s ∧ p_bd x q s i (q + 17) 4 = nI 0 ∧ p_bd x q s i (q + 17) 6 = 0 ∧ k_bd y c s i 87 c = nI s ∧ k_bd y c s i 88 c = nI 0 ∧ (∀ j, j < i → k_bd y c s i 89 (4 * c + j) = p_bd x q s i (q + 18) j ∧ (¬ p_bd x q s i (q + 18) j = 0 → k_bd y c s i 90 (4 * c + j) = p_bd x q s i (q + 19) j ∧ k_bd y c s i 91 (4 * c + j) = p_bd x q s i (q + 20) j ∧ ¬ x (q + 3) (s * 4 + j) = 0)) ∧ (∀ j, i ≤ j → j < 4 → p_bd x q s i (q + 18) j = 0 ∧ p_bd x q s i (q + 19) j = 0) ∧ (p_bd x q s i (q + 17) 5 = 0 ↔ ¬ k_bd y c s i 93 c = 0) ∧ (p_bd x q s i (q + 17) 5 = 0 → k_bd y c s i 92 c = p_x4 (p_bd x q s i (q + 19)) i)
  | 0, _ => by
    unfold p_bd p_db k_bd
    refine ⟨?_, ?_, ?_, ?_, ?_, fun j hj => by omega, fun j _ hj => ⟨?_, ?_⟩, ?_, fun _ => ?_⟩
    · simp
    · simp [tw_n0]
    · simp
    · rw [tw_off (by omega), tw_off (by omega)]
      split
      · unfold k_bd0; rw [tw_off (by omega), tw_off (by omega), tw_on]
      · rw [k_send_off (by omega)]
        unfold k_bd0; rw [tw_off (by omega), tw_off (by omega), tw_on]
    · rw [tw_off (by omega), tw_off (by omega)]
      split
      · unfold k_bd0; rw [tw_off (by omega), tw_on]; rfl
      · rw [k_send_off (by omega)]
        unfold k_bd0; rw [tw_off (by omega), tw_on]; rfl
    · rw [if_pos (by omega)]
    · rw [if_pos (by omega)]
    · rw [tw_on]
      simp
    · rw [tw_off (by omega), tw_on]
      rfl
  | i + 1, hi => by
    obtain ⟨g1, g2, g3, g4, g5, g6, g7, g8, g9⟩ := rS_bd h hc hq hs i (by omega)
    have hq2 : q = 17 ∨ q = 39 := by omega
    have hD := h.1
    have hE := h.2.2.2.2.2.1 c hc
    rw [← hq] at hE
    obtain ⟨d1, d2, d3, d4⟩ := hD
    obtain ⟨e1, e2, e3, e4, e5, e6⟩ := hE (s * 4 + i) (by omega)
    have xr : ∀ a b, ¬ (q + 17 ≤ a ∧ a ≤ q + 20) → a ≠ q → ¬ (67 - q ≤ a ∧ a ≤ 72 - q) → p_bd x q s i a b = x a b := fun a b u1 u2 u3 => by rw [p_bd_off u1 i, p_sip_off hq2 u3, tw_off (by omega)]
    have yr : ∀ a b, (62 ≤ a ∧ a ≤ 65 ∨ 70 ≤ a ∧ a ≤ 76) → k_bd y c s i a b = y a b := fun a b u => by rw [k_bd_off (by omega) i (by omega), k_sip_off (by omega), tw_off (by omega)]
    have x3 : p_bd x q s i (q + 3) (s * 4 + i) = x (q + 3) (s * 4 + i) := xr _ _ (by omega) (by omega) (by omega)
    have x4 : p_bd x q s i (q + 4) (s * 4 + i) = x (q + 4) (s * 4 + i) := xr _ _ (by omega) (by omega) (by omega)
    have x5 : p_bd x q s i (q + 5) (s * 4 + i) = x (q + 5) (s * 4 + i) := xr _ _ (by omega) (by omega) (by omega)
    have xm : p_bd x q s i 5 = x 5 := funext fun b => xr _ _ (by omega) (by omega) (by omega)
    have xb : p_bd x q s i 4 = x 4 := funext fun b => xr _ _ (by omega) (by omega) (by omega)
    have y73 : k_bd y c s i 73 (32 * c + (4 * s + i)) = x (q + 3) (s * 4 + i) := by rw [yr _ _ (by omega), show 4 * s + i = s * 4 + i by omega]; exact e2
    have ym : k_bd y c s i 65 = x 5 := by
      rw [← d4]
      exact funext fun b => yr _ _ (by omega)
    have yb : k_bd y c s i 64 = x 4 := by
      rw [← d3]
      exact funext fun b => yr _ _ (by omega)
    have y71 : ¬ x (q + 3) (s * 4 + i) = 0 → k_bd y c s i 71 (32 * c + (4 * s + i)) = x (q + 4) (s * 4 + i) := fun u => by rw [yr _ _ (by omega), show 4 * s + i = s * 4 + i by omega]; exact (e4 (e3 u)).1
    have y72 : ¬ x (q + 3) (s * 4 + i) = 0 → k_bd y c s i 72 (32 * c + (4 * s + i)) = x (q + 5) (s * 4 + i) := fun u => by rw [yr _ _ (by omega), show 4 * s + i = s * 4 + i by omega]; exact (e4 (e3 u)).2
    unfold p_bd k_bd
    generalize p_bd x q s i = X at g1 g2 g3 g6 g7 g8 g9 x3 x4 x5 xm xb ⊢
    generalize k_bd y c s i = Y at g4 g5 g6 g8 g9 y73 ym yb y71 y72 ⊢
    by_cases hd : x (q + 3) (s * 4 + i) = 0
    · have eX : ∀ (p : Prop), p_lost (x 5) (s * 4 + i) = p → True := fun _ _ => trivial
      rw [k_td, if_pos (y73.trans hd), p_td, if_pos (x3.trans hd), xm, xb, ym, yb, show 4 * s + i = s * 4 + i by omega]
      generalize p_what (x 5) (x 4) (s * 4 + i) = pw
      have yo : ∀ a b, ¬ (a = 89 ∧ b = 4 * c + i) ∧ ¬ ((a = 92 ∨ a = 93) ∧ b = c) → ∀ u v : Int32, tw_up (tw_up (tw_up Y 89 (4 * c + i) 0) 93 c u) 92 c v a b = Y a b := fun a b w u v => by rw [tw_off (by omega), tw_off (by omega), tw_off (by omega)]
      by_cases hl : p_lost (x 5) (s * 4 + i)
      · rw [p_ite_t hl, p_ite_f (fun u => u.2 hl)]
        have xo : ∀ a b, ¬ (a = q + 17 ∧ b = 5) → tw_up X (q + 17) 5 1 a b = X a b := fun a b u => tw_off (by omega)
        refine ⟨by rw [xo _ _ (by omega)]; exact g1, by rw [xo _ _ (by omega)]; exact g2, by rw [xo _ _ (by omega)]; exact g3, by rw [yo _ _ (by omega)]; exact g4, by rw [yo _ _ (by omega)]; exact g5, fun j hj => ?_, fun j h1 h2 => by rw [xo _ _ (by omega), xo _ _ (by omega)]; exact g7 j (by omega) h2, ?_, ?_⟩
        · rw [xo (q + 18) j (by omega), xo (q + 19) j (by omega), xo (q + 20) j (by omega), yo 90 _ (by omega), yo 91 _ (by omega)]
          by_cases hji : j = i
          · subst hji
            rw [tw_off (by omega), tw_off (by omega), tw_on, (g7 j (by omega) (by omega)).1]
            exact ⟨rfl, fun u => absurd rfl u⟩
          · rw [yo 89 _ (by omega)]
            exact g6 j (by omega)
        · rw [tw_on, tw_off (by omega), tw_on]
          exact ⟨fun u => absurd u (by decide), fun u => absurd rfl u⟩
        · intro u
          rw [tw_on] at u
          exact absurd u (by decide)
      · rw [p_ite_f hl]
        have xo : ∀ a b, ¬ (a = q + 19 ∧ b = i) → tw_up X (q + 19) i pw a b = X a b := fun a b u => tw_off (by omega)
        have e93 : ∀ u v : Int32, tw_up (tw_up (tw_up Y 89 (4 * c + i) 0) 93 c u) 92 c v 93 c = u := fun u v => by rw [tw_off (by omega), tw_on]
        refine ⟨by rw [xo _ _ (by omega)]; exact g1, by rw [xo _ _ (by omega)]; exact g2, by rw [xo _ _ (by omega)]; exact g3, by rw [yo _ _ (by omega)]; exact g4, by rw [yo _ _ (by omega)]; exact g5, fun j hj => ?_, fun j h1 h2 => by rw [xo _ _ (by omega), xo _ _ (by omega)]; exact g7 j (by omega) h2, ?_, ?_⟩
        · rw [xo (q + 18) j (by omega), xo (q + 20) j (by omega), yo 90 _ (by omega), yo 91 _ (by omega)]
          by_cases hji : j = i
          · subst hji
            rw [tw_off (by omega), tw_off (by omega), tw_on, (g7 j (by omega) (by omega)).1]
            exact ⟨rfl, fun u => absurd rfl u⟩
          · rw [yo 89 _ (by omega), xo (q + 19) j (by omega)]
            exact g6 j (by omega)
        · rw [xo _ _ (by omega), e93]
          by_cases h93 : Y 93 c = 0
          · rw [p_ite_f (fun u => u.1 h93), g8]
            exact ⟨fun u => absurd h93 u, fun u => absurd rfl u⟩
          · rw [p_ite_t ⟨h93, hl⟩, g8]
            exact ⟨fun _ => by decide, fun _ => h93⟩
        · intro u
          rw [xo _ _ (by omega)] at u
          have ex : tw_up X (q + 19) i pw (q + 19) = fun j => if j = i then pw else X (q + 19) j := by
            funext j
            simp [tw_up]
          rw [tw_on, g9 u, ex]
          show _ = p_x4 (fun j => if j = i then pw else X (q + 19) j) i ^^^ (if i = i then pw else X (q + 19) i)
          rw [if_pos rfl, p_x4_up i (Nat.le_refl _)]
    · rw [k_td, if_neg (by rw [y73]; exact hd), p_td, if_neg (by rw [x3]; exact hd), y71 hd, y72 hd, x4, x5]
      have yo : ∀ a b, ¬ (89 ≤ a ∧ a ≤ 91 ∧ b = 4 * c + i) ∧ ¬ (a = 92 ∧ b = c) → ∀ u v w : Int32, tw_up (tw_up (tw_up (tw_up Y 89 (4 * c + i) 1) 90 (4 * c + i) u) 91 (4 * c + i) v) 92 c w a b = Y a b := fun a b r u v w => by rw [tw_off (by omega), tw_off (by omega), tw_off (by omega), tw_off (by omega)]
      have xo : ∀ a b, ¬ (q + 18 ≤ a ∧ a ≤ q + 20 ∧ b = i) → ∀ u v : Int32, tw_up (tw_up (tw_up X (q + 18) i 1) (q + 19) i u) (q + 20) i v a b = X a b := fun a b r u v => by rw [tw_off (by omega), tw_off (by omega), tw_off (by omega)]
      refine ⟨by rw [xo _ _ (by omega)]; exact g1, by rw [xo _ _ (by omega)]; exact g2, by rw [xo _ _ (by omega)]; exact g3, by rw [yo _ _ (by omega)]; exact g4, by rw [yo _ _ (by omega)]; exact g5, fun j hj => ?_, fun j h1 h2 => by rw [xo _ _ (by omega), xo _ _ (by omega)]; exact g7 j (by omega) h2, ?_, ?_⟩
      · by_cases hji : j = i
        · subst hji
          refine ⟨?_, fun _ => ⟨?_, ?_, hd⟩⟩
          · rw [tw_off (by omega), tw_off (by omega), tw_off (by omega), tw_on, tw_off (by omega), tw_off (by omega), tw_on]
          · rw [tw_off (by omega), tw_off (by omega), tw_on, tw_off (by omega), tw_on]
          · rw [tw_off (by omega), tw_on, tw_on]
        · rw [xo (q + 18) j (by omega), xo (q + 19) j (by omega), xo (q + 20) j (by omega), yo 89 _ (by omega), yo 90 _ (by omega), yo 91 _ (by omega)]
          exact g6 j (by omega)
      · rw [xo _ _ (by omega), yo _ _ (by omega)]
        exact g8
      · intro u
        rw [xo _ _ (by omega)] at u
        have ex : tw_up (tw_up (tw_up X (q + 18) i 1) (q + 19) i (x (q + 4) (s * 4 + i))) (q + 20) i (x (q + 5) (s * 4 + i)) (q + 19) = fun j => if j = i then x (q + 4) (s * 4 + i) else X (q + 19) j := by
          funext j
          by_cases hji : j = i
          · subst hji
            rw [if_pos rfl, tw_off (by omega), tw_on]
          · rw [if_neg hji, xo _ _ (by omega)]
        rw [tw_on, g9 u, ex]
        show _ = p_x4 (fun j => if j = i then x (q + 4) (s * 4 + i) else X (q + 19) j) i ^^^ (if i = i then x (q + 4) (s * 4 + i) else X (q + 19) i)
        rw [if_pos rfl, p_x4_up i (Nat.le_refl _)]
theorem rR_bd {x y : tw_S} {tm c q s : Nat} (h : rR x y tm) (hc : c < 2) (hq : q = 17 + 22 * c) (hs : s < 8) : rR (p_bd x q s 4) (k_bd y c s 4) tm := by
  have hq2 : q = 17 ∨ q = 39 := by omega
  have h1 := rR_sip (k := 3) (p := nI s) (w := 0) (a := nI s) (b := 0) (rR_noted h hc hq hs) hc hq ⟨rfl, Or.inr (Or.inr (Or.inr (Or.inl ⟨Or.inl rfl, ⟨s, hs, rfl⟩, rfl⟩)))⟩
  obtain ⟨g1, g2, g3, g4, g5, g6, g7, g8, g9⟩ := rS_bd h hc hq hs 4 (Nat.le_refl _)
  refine rR_setS h1 hc hq (fun a b u => p_bd_off u 4) (fun a b u => k_bd_off (by omega) 4 (Nat.le_refl _)) ⟨by rw [g1, g4], Or.inr ⟨s, hs, g1, 0, by omega, g5, fun _ => ⟨g2, g3⟩, fun u => by omega, fun i hi => ?_, g8, g9⟩⟩
  have e3 : p_bd x q s 4 (q + 3) (s * 4 + i) = x (q + 3) (s * 4 + i) := by rw [p_bd_off (by omega) 4, p_sip_off hq2 (by omega), tw_off (by omega)]
  rw [e3]
  exact g6 i hi
