/-! The call step. -/
theorem r_int (x : Int32) : ∃ g, x = nI g := by
  rcases pk_ix x (n := 1) (by omega) with h | h | ⟨j, _, h⟩
  · exact ⟨x.toBitVec.toNat, by rw [nI]; exact (Int32.toBitVec_inj.mp (by simp [Int32.toBitVec_ofNat]))⟩
  · exact ⟨x.toBitVec.toNat, by rw [nI]; exact (Int32.toBitVec_inj.mp (by simp [Int32.toBitVec_ofNat]))⟩
  · exact ⟨j, h⟩
theorem p_can_eq {x y : tw_S} {c q s : Nat} (hD : rD x y) (ht : ∀ i, i < 4 → y 89 (4 * c + i) = x (q + 18) i) : ∀ k, k < 4 → k_can y c s k = p_can x q s k := by
  intro k hk
  unfold k_can p_can
  rw [ht k hk, hD.1]
theorem p_can_took {x : tw_S} {q s k : Nat} (h : ¬ p_can x q s k = 0) : ¬ x (q + 18) k = 0 := fun u => h (by unfold p_can; rw [if_pos (Or.inl u)])
theorem c_step {fl : Bool} {d e tm : Nat} {f : tw_S} (h : rR f f tm) (x : Int32) : tS fl (d + 8) 83 [tw_R 0, tw_I x] f (rC fl (e + 5) 138 [tw_I x]) := by
  obtain g | g | ⟨c, hc, rfl⟩ := pk_ix x (n := 2) (by omega)
  · exact s_step_x (pk_not01 (Or.inl g)) ⟨_, rfl, s_m_step_x rfl (Or.inl g) ⟨rfl, tm, rR_same h⟩⟩
  · exact s_step_x (pk_not01 (Or.inr g)) ⟨_, rfl, s_m_step_x rfl (Or.inr g) ⟨rfl, tm, rR_same h⟩⟩
  · generalize hq : 17 + 22 * c = q
    have hq2 : q = 17 ∨ q = 39 := by omega
    obtain ⟨t1, t2, t3, t4⟩ := h.2.2.1
    obtain ⟨lm, l1, l2, l3, l4⟩ := h.2.1
    have hF := h.2.2.2.2.1 c hc
    have hE := h.2.2.2.2.2.1 c hc
    have hS := h.2.2.2.2.2.2.2.1 c hc
    have hW := h.2.2.2.2.2.2.2.2 c hc
    rw [hq] at hF hE hS hW
    have hIo := h.2.2.2.2.2.2.1 (1 - c) (by omega)
    rw [show 17 + 22 * (1 - c) = 56 - q by omega] at hIo
    -- the reference's memory g, for every memory z of the class behind the call
    have com : ∀ z : tw_S, (∀ a b, 61 ≤ a → z a b = f a b) → ∃ g, tw_up z 61 0 0 = g ∧ rR f g tm ∧ (∀ a b, 61 ≤ a → ¬ (a = 61 ∧ b = 0) → g a b = f a b) ∧ (∀ a b, a < 61 → g a b = z a b) ∧ k_box g c ∧ g 66 c = f q 6 ∧ g 68 c = f q 7 ∧ g 84 c = f q 8 ∧ g 94 c = f q 9 ∧ (f (q + 21) 0 = 0 ↔ g 80 c < 0) ∧ (f (q + 17) 3 = -1 ↔ g 87 c < 0) ∧ p_cd (fun j => g 73 (32 * c + j)) 8 = p_cd (f (q + 3)) 8 ∧ p_ft (fun s => g 79 (8 * c + s)) 8 0 = p_ft (fun s => f 79 (8 * c + s)) 8 0 ∧ p_ft (k_ln g c) 8 0 = p_ft (k_ln f c) 8 0 := by
      intro z zo
      have h2 := rR_g h zo
      have go : ∀ a b, 61 ≤ a → ¬ (a = 61 ∧ b = 0) → tw_up z 61 0 0 a b = f a b := fun a b u v => by rw [tw_off (by omega), zo a b u]
      refine ⟨_, rfl, h2, go, fun a b u => tw_off (by omega), ?_⟩
      generalize tw_up z 61 0 0 = g at h2 go
      have hF := h2.2.2.2.2.1 c hc
      have hE := h2.2.2.2.2.2.1 c hc
      have hS := h2.2.2.2.2.2.2.2.1 c hc
      have hW := h2.2.2.2.2.2.2.2.2 c hc
      rw [hq] at hF hE hS hW
      refine ⟨r_kbox (h2.2.2.2.2.2.2.1 (1 - c) (by omega)), hF.2.1, hF.2.2.1, hF.2.2.2.1, hF.2.2.2.2.1, (r_way hW).2, (r_stripe hS).2, r_dirty hE, p_ft_congr 8 0 (fun j _ _ => by rw [go 79 _ (by omega) (by omega)]), p_ft_congr 8 0 (fun j _ _ => ?_)⟩
      unfold k_ln
      rw [go 77 _ (by omega) (by omega), go 79 _ (by omega) (by omega)]
    refine s_step_c hc hq.symm (fun u => ⟨_, rfl, ?_⟩) (fun u => ?_)
    · obtain ⟨g, hg, h2, go, gl, gb, g66, g68, g84, g94, gw, gs, gd, gr, gn⟩ := com f (fun _ _ _ => rfl)
      exact s_m_step_c hg hc gb (fun _ => ⟨rfl, tm, rR_glue h2 (fun a b w => gl a b w)⟩) (fun w => absurd (g66.trans u) w) (fun w => absurd (g66.trans u) w) (fun w => absurd (g66.trans u) w) (fun w => absurd (g66.trans u) w) (fun w => absurd (g66.trans u) w) (fun w => absurd (g66.trans u) w) (fun w => absurd (g66.trans u) w) (fun w => absurd (g66.trans u) w) (fun w => absurd (g66.trans u) w)
    · refine s_doFirst (gr := fun s => f 79 (8 * c + s)) (gn := k_ln f c) hq2 (r_num hc hq.symm hF) (r_box hIo) l2 l1 t2 t1 ?_ ?_ (fun w => ?_) (fun w w2 => ?_) (fun w w2 w3 w4 => ⟨_, rfl, _, rfl, ?_⟩) (fun w w2 w3 w4 => ⟨_, rfl, _, rfl, ?_⟩) (fun w w2 w3 w4 => ?_) (fun w w2 w3 w4 w5 w6 => ⟨_, rfl, _, rfl, ?_⟩) (fun w w2 w3 w4 w5 w6 => ⟨_, rfl, _, rfl, ?_⟩) (fun w w2 w3 w4 w5 w6 w7 => ⟨_, rfl, _, rfl, ?_⟩) (fun w w2 w3 w4 w5 w6 w7 w8 => ⟨_, rfl, _, rfl, ?_⟩) (fun w w2 w3 w4 w5 w6 w7 w8 => ⟨_, rfl, _, rfl, ?_⟩)
      · intro s hs
        have hrp : f q 14 = p_bits (fun s => f 79 (8 * c + s)) 8 := hF.2.2.2.2.2.2.2.2.2.1
        rw [hrp, b_bit (by omega) hs]
        exact ⟨fun u v => v u, fun u => Classical.byContradiction u⟩
      · intro s hs
        have hrp : f q 14 = p_bits (fun s => f 79 (8 * c + s)) 8 := hF.2.2.2.2.2.2.2.2.2.1
        have hno : f q 12 = p_bits (fun s => f 77 (8 * c + s)) 8 := hF.2.2.2.2.2.2.2.1
        rw [b_ln hs, hrp, hno, b_bit (by omega) hs, b_bit (by omega) hs]
        unfold k_ln
        by_cases h1 : f 77 (8 * c + s) = 0
        · rw [if_pos (Or.inl h1)]
          exact ⟨fun _ v => v.1 h1, fun _ => rfl⟩
        · by_cases h2 : f 79 (8 * c + s) = 0
          · rw [if_neg (fun v => v.elim h1 (fun r => r h2))]
            exact ⟨fun v => absurd v (by decide), fun v => absurd ⟨h1, fun r => r h2⟩ v⟩
          · rw [if_pos (Or.inr h2)]
            exact ⟨fun _ v => v.2 h2, fun _ => rfl⟩
      · -- a write lands
        rcases hW with ⟨w1, _⟩ | ⟨w1, i, s, i1, s1, k3, k4, k5, k6, k7, k8⟩
        · exact absurd w1 w
        · refine ⟨i, s, k3, i1, k4, s1, fun v => ⟨_, rfl, _, rfl, ?_⟩, fun v v2 => ⟨_, rfl, _, rfl, ?_⟩, fun v v2 => ⟨_, rfl, _, rfl, ?_⟩⟩
          · obtain ⟨g, hg, h2, go, gl, gb, g66, g68, g84, g94, gw, gs, gd, gr, gn⟩ := com (tw_up f (q + 21) 0 0) (fun a b r => tw_off (by omega))
            refine s_m_step_c hg hc gb (fun r => absurd (g66.symm.trans r) u) (fun _ _ => ?_) (fun _ r => absurd (gw.mpr r) w) (fun _ r => absurd (gw.mpr r) w) (fun _ r => absurd (gw.mpr r) w) (fun _ r => absurd (gw.mpr r) w) (fun _ r => absurd (gw.mpr r) w) (fun _ r => absurd (gw.mpr r) w) (fun _ r => absurd (gw.mpr r) w) (fun _ r => absurd (gw.mpr r) w)
            obtain ⟨d1, d2, d3, d4⟩ := h2.1
            have g83 : g 83 c = f (q + 21) 4 := by rw [go _ _ (by omega) (by omega)]; exact k8
            exact s_k_lands_step hc (by rw [go _ _ (by omega) (by omega)]; exact l3) l1 (by rw [go _ _ (by omega) (by omega)]; exact t3) t1 (by rw [go _ _ (by omega) (by omega)]; exact k5) i1 (by rw [go _ _ (by omega) (by omega)]; exact k6) s1 (fun _ => ⟨rfl, rfl, tm, rR_glue (rR_landed h2 hc hq.symm) (fun a b r => by rw [tw_off (by omega), gl a b r])⟩) (fun r => absurd (by rw [d1]; exact v) r) (fun r => absurd (by rw [d1]; exact v) r)
          · obtain ⟨g, hg, h2, go, gl, gb, g66, g68, g84, g94, gw, gs, gd, gr, gn⟩ := com (tw_up (tw_up (tw_up f (q + 21) 0 0) 4 (i * 8 + s) (f (q + 21) 3)) 5 (i * 8 + s) 0) (fun a b r => by rw [tw_off (by omega), tw_off (by omega), tw_off (by omega)])
            refine s_m_step_c hg hc gb (fun r => absurd (g66.symm.trans r) u) (fun _ _ => ?_) (fun _ r => absurd (gw.mpr r) w) (fun _ r => absurd (gw.mpr r) w) (fun _ r => absurd (gw.mpr r) w) (fun _ r => absurd (gw.mpr r) w) (fun _ r => absurd (gw.mpr r) w) (fun _ r => absurd (gw.mpr r) w) (fun _ r => absurd (gw.mpr r) w) (fun _ r => absurd (gw.mpr r) w)
            obtain ⟨d1, d2, d3, d4⟩ := h2.1
            have g83 : g 83 c = f (q + 21) 4 := by rw [go _ _ (by omega) (by omega)]; exact k8
            have g82 : g 82 c = f (q + 21) 3 := by rw [go _ _ (by omega) (by omega)]; exact k7
            refine s_k_lands_step hc (by rw [go _ _ (by omega) (by omega)]; exact l3) l1 (by rw [go _ _ (by omega) (by omega)]; exact t3) t1 (by rw [go _ _ (by omega) (by omega)]; exact k5) i1 (by rw [go _ _ (by omega) (by omega)]; exact k6) s1 (fun r => absurd (by rw [d1] at r; exact r) v) (fun _ _ => ⟨rfl, rfl, tm, ?_⟩) (fun _ r => absurd (by rw [d2, g83]; exact v2) r)
            rw [g82]
            exact rR_glue (rR_put (rR_landed h2 hc hq.symm)) (fun a b r => by rw [k_put, tw_off (by omega), tw_off (by omega), tw_off (by omega), gl a b r])
          · obtain ⟨g, hg, h2, go, gl, gb, g66, g68, g84, g94, gw, gs, gd, gr, gn⟩ := com (p_down (tw_up f (q + 21) 0 0) q) (fun a b r => by rw [p_down_off (by omega), tw_off (by omega)])
            refine s_m_step_c hg hc gb (fun r => absurd (g66.symm.trans r) u) (fun _ _ => ?_) (fun _ r => absurd (gw.mpr r) w) (fun _ r => absurd (gw.mpr r) w) (fun _ r => absurd (gw.mpr r) w) (fun _ r => absurd (gw.mpr r) w) (fun _ r => absurd (gw.mpr r) w) (fun _ r => absurd (gw.mpr r) w) (fun _ r => absurd (gw.mpr r) w) (fun _ r => absurd (gw.mpr r) w)
            obtain ⟨d1, d2, d3, d4⟩ := h2.1
            have g83 : g 83 c = f (q + 21) 4 := by rw [go _ _ (by omega) (by omega)]; exact k8
            exact s_k_lands_step hc (by rw [go _ _ (by omega) (by omega)]; exact l3) l1 (by rw [go _ _ (by omega) (by omega)]; exact t3) t1 (by rw [go _ _ (by omega) (by omega)]; exact k5) i1 (by rw [go _ _ (by omega) (by omega)]; exact k6) s1 (fun r => absurd (by rw [d1] at r; exact r) v) (fun _ r => absurd (by rw [d2, g83] at r; exact r) v2) (fun _ _ => ⟨rfl, rfl, tm, rR_glue (rR_down hc hq.symm (rR_landed h2 hc hq.symm)) (fun a b r => by rw [k_down_off (by omega), tw_off (by omega), gl a b r])⟩)
      · -- it takes over
        obtain ⟨i, i1, i2, i3, i4⟩ := hF.2.2.2.2.2.2.2.2.2.2.2.2.2 w2
        obtain ⟨gg, hgg⟩ := r_int (f q 16)
        have h96 : f 96 c = f q 16 := hF.2.2.2.2.2.2.2.2.2.2.2.2.1
        refine ⟨i, 5 - i, gg, i2, by omega, hgg, fun v => ⟨_, rfl, _, rfl, ?_⟩, fun v v2 => ⟨_, rfl, _, rfl, ?_⟩, fun v v2 => ⟨_, rfl, _, rfl, ?_⟩⟩
        · generalize hp : p_ft (f 2) (5 - i) i = p at v
          obtain ⟨g, hg, h2, go, gl, gb, g66, g68, g84, g94, gw, gs, gd, gr, gn⟩ := com (tw_up (tw_up (tw_up f 3 p (f q 10)) q 18 (f q 18 + 1)) q 17 (nI (p + 1))) (fun a b r => by rw [tw_off (by omega), tw_off (by omega), tw_off (by omega)])
          refine s_m_step_c hg hc gb (fun r => absurd (g66.symm.trans r) u) (fun _ r => absurd (gw.mp w) r) (fun _ _ _ => ?_) (fun _ _ r => absurd (g84.symm.trans r) w2) (fun _ _ r => absurd (g84.symm.trans r) w2) (fun _ _ r => absurd (g84.symm.trans r) w2) (fun _ _ r => absurd (g84.symm.trans r) w2) (fun _ _ r => absurd (g84.symm.trans r) w2) (fun _ _ r => absurd (g84.symm.trans r) w2) (fun _ _ r => absurd (g84.symm.trans r) w2)
          obtain ⟨d1, d2, d3, d4⟩ := h2.1
          refine s_k_takes (i := i) (n := 5 - i) (g := gg) hc (by rw [go _ _ (by omega) (by omega)]; exact l3) l1 (by rw [go _ _ (by omega) (by omega)]; exact t3) t1 (by rw [go _ _ (by omega) (by omega)]; exact i3) (by omega) (by rw [go _ _ (by omega) (by omega), h96]; exact hgg) (fun _ => ⟨rfl, rfl, tm, ?_⟩) (fun r => absurd (by rw [d1, hp]; exact v) r) (fun r => absurd (by rw [d1, hp]; exact v) r)
          rw [d1, hp]
          exact rR_glue (rR_took h2 hc hq.symm v w2) (fun a b r => by rw [tw_off (by omega), tw_off (by omega), tw_off (by omega), gl a b r])
        · obtain ⟨g, hg, h2, go, gl, gb, g66, g68, g84, g94, gw, gs, gd, gr, gn⟩ := com (p_down f q) (fun a b r => p_down_off (by omega))
          refine s_m_step_c hg hc gb (fun r => absurd (g66.symm.trans r) u) (fun _ r => absurd (gw.mp w) r) (fun _ _ _ => ?_) (fun _ _ r => absurd (g84.symm.trans r) w2) (fun _ _ r => absurd (g84.symm.trans r) w2) (fun _ _ r => absurd (g84.symm.trans r) w2) (fun _ _ r => absurd (g84.symm.trans r) w2) (fun _ _ r => absurd (g84.symm.trans r) w2) (fun _ _ r => absurd (g84.symm.trans r) w2) (fun _ _ r => absurd (g84.symm.trans r) w2)
          obtain ⟨d1, d2, d3, d4⟩ := h2.1
          have g86 : g 86 c = f q 18 := by rw [go _ _ (by omega) (by omega)]; exact i4
          exact s_k_takes (i := i) (n := 5 - i) (g := gg) hc (by rw [go _ _ (by omega) (by omega)]; exact l3) l1 (by rw [go _ _ (by omega) (by omega)]; exact t3) t1 (by rw [go _ _ (by omega) (by omega)]; exact i3) (by omega) (by rw [go _ _ (by omega) (by omega), h96]; exact hgg) (fun r => absurd (by rw [d1] at r; exact r) v) (fun _ _ => ⟨rfl, rfl, tm, rR_glue (rR_downt h2 hc hq.symm) (fun a b r => by rw [k_down_off (by omega), tw_off (by omega), tw_off (by omega), gl a b r])⟩) (fun _ r => absurd (by rw [g86] at r; exact r) v2)
        · generalize hz : (fun c x => if c = q ∧ x = 12 then f q 12 ||| f q 13 else if c = q ∧ x = 14 then f q 14 ||| f q 13 else if c = q ∧ (x = 13 ∨ x = 8) then 0 else p_tk f q gg 32 c x : tw_S) = z
          obtain ⟨g, hg, h2, go, gl, gb, g66, g68, g84, g94, gw, gs, gd, gr, gn⟩ := com z (fun a b r => by
            rw [← hz]
            show (if _ then _ else _) = _
            rw [if_neg (by omega), if_neg (by omega), if_neg (by omega), p_tk, if_neg (by omega), if_neg (by omega), if_neg (by omega), if_neg (by omega), if_neg (by omega), if_neg (by omega)])
          refine s_m_step_c hg hc gb (fun r => absurd (g66.symm.trans r) u) (fun _ r => absurd (gw.mp w) r) (fun _ _ _ => ?_) (fun _ _ r => absurd (g84.symm.trans r) w2) (fun _ _ r => absurd (g84.symm.trans r) w2) (fun _ _ r => absurd (g84.symm.trans r) w2) (fun _ _ r => absurd (g84.symm.trans r) w2) (fun _ _ r => absurd (g84.symm.trans r) w2) (fun _ _ r => absurd (g84.symm.trans r) w2) (fun _ _ r => absurd (g84.symm.trans r) w2)
          obtain ⟨d1, d2, d3, d4⟩ := h2.1
          have g86 : g 86 c = f q 18 := by rw [go _ _ (by omega) (by omega)]; exact i4
          have hy := rR_takes (g := gg) h2 hc hq.symm hgg rfl
          rw [hz] at hy
          refine s_k_takes (i := i) (n := 5 - i) (g := gg) hc (by rw [go _ _ (by omega) (by omega)]; exact l3) l1 (by rw [go _ _ (by omega) (by omega)]; exact t3) t1 (by rw [go _ _ (by omega) (by omega)]; exact i3) (by omega) (by rw [go _ _ (by omega) (by omega), h96]; exact hgg) (fun r => absurd (by rw [d1] at r; exact r) v) (fun _ r => absurd (by rw [g86]; exact v2) r) (fun _ _ => ⟨rfl, rfl, tm, rR_glue hy (fun a b r => ?_)⟩)
          rw [k_rk, if_neg (by omega), if_neg (by omega), k_tk, if_neg (by omega), if_neg (by omega), if_neg (by omega), if_neg (by omega), if_neg (by omega), tw_off (by omega), tw_off (by omega), tw_off (by omega), tw_off (by omega), gl a b r]
      · -- a repair that can't be
        generalize hs : p_ft (fun s => f 79 (8 * c + s)) 8 0 = s at w3 w4 ⊢
        obtain ⟨g, hg, h2, go, gl, gb, g66, g68, g84, g94, gw, gs, gd, gr, gn⟩ := com (tw_up f q 14 (f q 14 &&& (1 <<< (nI s &&& 31) ^^^ -1))) (fun a b r => tw_off (by omega))
        rw [hs] at gr
        have n3 : ∀ {r : Prop}, ¬ p_ft (fun s => g 79 (8 * c + s)) 8 0 < 8 → r := fun r => absurd (by rw [gr]; exact w3) r
        refine s_m_step_c hg hc gb (fun r => absurd (g66.symm.trans r) u) (fun _ r => absurd (gw.mp w) r) (fun _ _ r => absurd (g84.trans w2) r) (fun _ _ _ _ => ?_) (fun _ _ _ r => n3 r) (fun _ _ _ r => n3 r) (fun _ _ _ r => n3 r) (fun _ _ _ r => n3 r) (fun _ _ _ r => n3 r) (fun _ _ _ r => n3 r)
        obtain ⟨d1, d2, d3, d4⟩ := h2.1
        refine s_k_repairs hc (by rw [gr]; exact w3) (fun _ => ⟨rfl, rfl, tm, ?_⟩) (fun r => absurd (by rw [gr, d4]; exact w4) r)
        rw [gr]
        exact rR_glue (rR_repaired h2 hc hq.symm w3) (fun a b r => by rw [tw_off (by omega), gl a b r])
      · -- a repair
        generalize hs : p_ft (fun s => f 79 (8 * c + s)) 8 0 = s at w3 w4 ⊢
        have hpd : p_pd s < 5 := by unfold p_pd; omega
        have e10 : tw_up f q 14 (f q 14 &&& (1 <<< (nI s &&& 31) ^^^ -1)) q 10 = f q 10 := tw_off (by omega)
        obtain ⟨g, hg, h2, go, gl, gb, g66, g68, g84, g94, gw, gs, gd, gr, gn⟩ := com (p_wr (tw_up f q 14 (f q 14 &&& (1 <<< (nI s &&& 31) ^^^ -1))) q (nI (p_pd s)) (nI s) (p_xor (f 4) (p_pd s) s 5) (f q 10)) (fun a b r => by rw [p_wr, tw_off (by omega), tw_off (by omega), tw_off (by omega), tw_off (by omega), tw_off (by omega), tw_off (by omega)])
        rw [hs] at gr
        have n3 : ∀ {r : Prop}, ¬ p_ft (fun s => g 79 (8 * c + s)) 8 0 < 8 → r := fun r => absurd (by rw [gr]; exact w3) r
        refine s_m_step_c hg hc gb (fun r => absurd (g66.symm.trans r) u) (fun _ r => absurd (gw.mp w) r) (fun _ _ r => absurd (g84.trans w2) r) (fun _ _ _ _ => ?_) (fun _ _ _ r => n3 r) (fun _ _ _ r => n3 r) (fun _ _ _ r => n3 r) (fun _ _ _ r => n3 r) (fun _ _ _ r => n3 r) (fun _ _ _ r => n3 r)
        obtain ⟨d1, d2, d3, d4⟩ := h2.1
        refine s_k_repairs hc (by rw [gr]; exact w3) (fun r => absurd (by rw [gr, d4] at r; exact r) w4) (fun _ => ⟨rfl, rfl, tm, ?_⟩)
        rw [gr, d3]
        have hy := rR_begins (i := p_pd s) (s := s) (v := p_xor (f 4) (p_pd s) s 5) (rR_repaired h2 hc hq.symm w3) hc hq.symm hpd w3
        rw [e10] at hy
        exact rR_glue hy (fun a b r => by rw [k_begins, tw_off (by omega), tw_off (by omega), tw_off (by omega), tw_off (by omega), tw_off (by omega), gl a b r])
      · -- destaging goes on
        obtain ⟨s1, s2⟩ := hS
        rcases s2 with s2 | ⟨s, a1, a2, k, k1, k2, k3, k4, k5, k6, k7⟩
        · exact absurd s2 w4
        · have n3 : ∀ g : tw_S, p_ft (fun s => g 79 (8 * c + s)) 8 0 = p_ft (fun s => f 79 (8 * c + s)) 8 0 → ¬ p_ft (fun s => g 79 (8 * c + s)) 8 0 < 8 := fun g e => by rw [e]; exact w3
          have ci : ∃ i, f (q + 17) 4 = nI i ∧ i ≤ 4 ∧ (k ≤ 4 → i = k) ∧ (k = 5 → i = 4) := by
            by_cases hk : k ≤ 4
            · exact ⟨k, (k3 hk).1, hk, fun _ => rfl, fun u => by omega⟩
            · exact ⟨4, (k4 (by omega)).1, by omega, fun u => by omega, fun _ => rfl⟩
          obtain ⟨i, ci1, ci2, ci3, ci4⟩ := ci
          refine ⟨s, i, 4 - i, a2, a1, ci1, by omega, fun v => ⟨_, rfl, _, rfl, ?_⟩, fun v v2 => ⟨_, rfl, _, rfl, ?_⟩, fun v v2 => ⟨_, rfl, _, rfl, ?_⟩⟩
          · -- a block is written
            have hk : k ≤ 4 := by
              rcases Nat.lt_or_ge 4 k with r | r
              · have := p_ft_le (p_can f q s) (4 - i) i
                have := ci4 (by omega)
                omega
              · exact r
            obtain rfl := ci3 hk
            generalize hp : p_ft (p_can f q s) (4 - i) i = p at v
            have hpt : ¬ f (q + 18) p = 0 := by
              have := p_ft_at (g := p_can f q s) (4 - i) i (by omega)
              rw [hp] at this
              exact p_can_took this
            obtain ⟨g, hg, h2, go, gl, gb, g66, g68, g84, g94, gw, gs, gd, gr, gn⟩ := com (p_wr (tw_up f (q + 17) 4 (nI (p + 1))) q (nI (p_dd s p)) (nI s) (f (q + 19) p) (f q 10)) (fun a b r => by rw [p_wr, tw_off (by omega), tw_off (by omega), tw_off (by omega), tw_off (by omega), tw_off (by omega), tw_off (by omega)])
            have gs2 : ¬ g 87 c < 0 := fun r => w4 (gs.mpr r)
            refine s_m_step_c hg hc gb (fun r => absurd (g66.symm.trans r) u) (fun _ r => absurd (gw.mp w) r) (fun _ _ r => absurd (g84.trans w2) r) (fun _ _ _ r => absurd r (n3 g gr)) (fun _ _ _ _ _ => ?_) (fun _ _ _ _ r => absurd r gs2) (fun _ _ _ _ r => absurd r gs2) (fun _ _ _ _ r => absurd r gs2) (fun _ _ _ _ r => absurd r gs2) (fun _ _ _ _ r => absurd r gs2)
            have ec : p_ft (k_can g c s) (4 - i) i = p := by
              rw [← hp]
              exact p_ft_congr (4 - i) i (fun j h1 h3 => by rw [p_can_eq h2.1 (fun i hi => by rw [go _ _ (by omega) (by omega)]; exact (k5 i hi).1) j (by omega)])
            refine s_k_dest (n := 4 - i) hc (by rw [go _ _ (by omega) (by omega), s1]; exact a2) a1 (by rw [go _ _ (by omega) (by omega)]; exact k2) (Or.inl (by omega)) (by rw [go _ _ (by omega) (by omega)]; exact t3) t1 gb (fun _ _ => ⟨rfl, rfl, tm, ?_⟩) (fun _ r => absurd (by rw [ec]; exact v) r) (fun _ r => absurd (by rw [ec]; exact v) r) (fun r => by omega)
            rw [ec]
            exact rR_glue (rR_dwrite h2 hc hq.symm a1 a2 v hpt (k3 hk).2) (fun a b r => by rw [tw_off (by omega), k_begins, tw_off (by omega), tw_off (by omega), tw_off (by omega), tw_off (by omega), gl a b r])
          · -- the parity is written
            have hk : k ≤ 4 := by
              rcases Nat.lt_or_ge 4 k with r | r
              · exact absurd v2.1 (k4 (by omega)).2
              · exact r
            obtain rfl := ci3 hk
            obtain ⟨g, hg, h2, go, gl, gb, g66, g68, g84, g94, gw, gs, gd, gr, gn⟩ := com (p_wr (tw_up (tw_up f (q + 17) 4 (nI 4)) (q + 17) 6 1) q (nI (p_pd s)) (nI s) (p_x4 (f (q + 19)) 4) (f q 10)) (fun a b r => by rw [p_wr, tw_off (by omega), tw_off (by omega), tw_off (by omega), tw_off (by omega), tw_off (by omega), tw_off (by omega), tw_off (by omega)])
            have gs2 : ¬ g 87 c < 0 := fun r => w4 (gs.mpr r)
            refine s_m_step_c hg hc gb (fun r => absurd (g66.symm.trans r) u) (fun _ r => absurd (gw.mp w) r) (fun _ _ r => absurd (g84.trans w2) r) (fun _ _ _ r => absurd r (n3 g gr)) (fun _ _ _ _ _ => ?_) (fun _ _ _ _ r => absurd r gs2) (fun _ _ _ _ r => absurd r gs2) (fun _ _ _ _ r => absurd r gs2) (fun _ _ _ _ r => absurd r gs2) (fun _ _ _ _ r => absurd r gs2)
            have ec : p_ft (k_can g c s) (4 - i) i = p_ft (p_can f q s) (4 - i) i := p_ft_congr (4 - i) i (fun j h1 h3 => by rw [p_can_eq h2.1 (fun i hi => by rw [go _ _ (by omega) (by omega)]; exact (k5 i hi).1) j (by omega)])
            have kn : ¬ g 62 (p_pd s) = 0 ∧ ¬ g 93 c = 0 := ⟨by rw [h2.1.1]; exact v2.2.2, by rw [go _ _ (by omega) (by omega)]; exact k6.mp v2.2.1⟩
            exact s_k_dest (n := 4 - i) hc (by rw [go _ _ (by omega) (by omega), s1]; exact a2) a1 (by rw [go _ _ (by omega) (by omega)]; exact k2) (Or.inl (by omega)) (by rw [go _ _ (by omega) (by omega)]; exact t3) t1 gb (fun _ r => absurd (by rw [ec] at r; exact r) v) (fun _ _ _ => ⟨rfl, rfl, tm, rR_glue (rR_pwrite h2 hc hq.symm a1 a2 v2.2.1) (fun a b r => by rw [k_begins, tw_off (by omega), tw_off (by omega), tw_off (by omega), tw_off (by omega), tw_off (by omega), gl a b r])⟩) (fun _ _ r => absurd kn r) (fun r => by omega)
          · -- it is over
            obtain ⟨g, hg, h2, go, gl, gb, g66, g68, g84, g94, gw, gs, gd, gr, gn⟩ := com (tw_up (p_fd (tw_up f (q + 17) 4 (nI 4)) q s 4) (q + 17) 3 (-1)) (fun a b r => by rw [tw_off (by omega), p_fd_off hq2 (by omega), tw_off (by omega)])
            have gs2 : ¬ g 87 c < 0 := fun r => w4 (gs.mpr r)
            refine s_m_step_c hg hc gb (fun r => absurd (g66.symm.trans r) u) (fun _ r => absurd (gw.mp w) r) (fun _ _ r => absurd (g84.trans w2) r) (fun _ _ _ r => absurd r (n3 g gr)) (fun _ _ _ _ _ => ?_) (fun _ _ _ _ r => absurd r gs2) (fun _ _ _ _ r => absurd r gs2) (fun _ _ _ _ r => absurd r gs2) (fun _ _ _ _ r => absurd r gs2) (fun _ _ _ _ r => absurd r gs2)
            have ec : p_ft (k_can g c s) (4 - i) i = p_ft (p_can f q s) (4 - i) i := p_ft_congr (4 - i) i (fun j h1 h3 => by rw [p_can_eq h2.1 (fun i hi => by rw [go _ _ (by omega) (by omega)]; exact (k5 i hi).1) j (by omega)])
            have hkn : k + (4 - i) = 4 ∨ k = 5 := by
              rcases Nat.lt_or_ge 4 k with r | r
              · exact Or.inr (by omega)
              · have := ci3 r
                exact Or.inl (by omega)
            refine s_k_dest (n := 4 - i) hc (by rw [go _ _ (by omega) (by omega), s1]; exact a2) a1 (by rw [go _ _ (by omega) (by omega)]; exact k2) hkn (by rw [go _ _ (by omega) (by omega)]; exact t3) t1 gb (fun hk r => ?_) (fun hk _ r => ?_) (fun _ _ _ => ⟨rfl, rfl, tm, rR_glue (rR_done (x1 := tw_up f (q + 17) 4 (nI 4)) h2 hc hq.symm a1 a2 (fun a b r => tw_off (by omega)) (fun a b r => tw_off (by omega))) (fun a b r => by rw [tw_off (by omega), k_fd_off (by omega), tw_off (by omega), gl a b r])⟩) (fun _ => ⟨rfl, rfl, tm, rR_glue (rR_done (x1 := tw_up f (q + 17) 4 (nI 4)) h2 hc hq.symm a1 a2 (fun a b r => tw_off (by omega)) (fun a b r => rfl)) (fun a b r => by rw [tw_off (by omega), k_fd_off (by omega), gl a b r])⟩)
            · obtain rfl : i = k := by omega
              exact absurd (by rw [ec] at r; exact r) v
            · obtain rfl : i = k := by omega
              rw [h2.1.1, go 93 c (by omega) (by omega)] at r
              exact absurd ⟨(k3 ci2).2, k6.mpr r.2, r.1⟩ v2
      · -- a stripe is taken
        have hds : p_ds (f (q + 3)) 7 < 8 := by have := p_ds_le (f (q + 3)) 7; omega
        generalize hs : p_ds (f (q + 3)) 7 = s at hds ⊢
        obtain ⟨g, hg, h2, go, gl, gb, g66, g68, g84, g94, gw, gs, gd, gr, gn⟩ := com (p_bd f q s 4) (fun a b r => by rw [p_bd_off (by omega) 4, p_sip_off hq2 (by omega), tw_off (by omega)])
        have hE2 := h2.2.2.2.2.2.1 c hc
        rw [hq] at hE2
        have es : p_ds (fun j => g 73 (32 * c + j)) 7 = s := by
          rw [← hs]
          exact p_ds_congr 7 (by omega) (fun j hj => by simp only [(hE2 j hj).2.1])
        have c5 : (¬ g 94 c = 0 ∨ g 68 c = 0) := by rw [g94, g68]; exact w5
        have c6 : 0 < p_cd (fun j => g 73 (32 * c + j)) 8 := by rw [gd]; exact w6
        refine s_m_step_c hg hc gb (fun r => absurd (g66.symm.trans r) u) (fun _ r => absurd (gw.mp w) r) (fun _ _ r => absurd (g84.trans w2) r) (fun _ _ _ r => absurd r (by rw [gr]; exact w3)) (fun _ _ _ _ r => absurd (gs.mp w4) r) (fun _ _ _ _ _ _ _ => ?_) (fun _ _ _ _ _ r => absurd ⟨c5, c6⟩ r) (fun _ _ _ _ _ r => absurd ⟨c5, c6⟩ r) (fun _ _ _ _ _ r => absurd ⟨c5, c6⟩ r) (fun _ _ _ _ _ r => absurd ⟨c5, c6⟩ r)
        refine s_k_takesStripe hc gb ⟨rfl, rfl, tm, ?_⟩
        rw [es]
        exact rR_glue (rR_bd h2 hc hq.symm hds) (fun a b r => by rw [k_bd_off (by omega) 4 (Nat.le_refl _), k_sip_off (by omega), tw_off (by omega), gl a b r])
      · -- a note is closed
        generalize hs : p_ft (k_ln f c) 8 0 = s at w6 ⊢
        obtain ⟨g, hg, h2, go, gl, gb, g66, g68, g84, g94, gw, gs, gd, gr, gn⟩ := com (p_sip (tw_up f q 12 (f q 12 &&& (1 <<< (nI s &&& 31) ^^^ -1))) q 4 (nI s) 0) (fun a b r => by rw [p_sip_off hq2 (by omega), tw_off (by omega)])
        rw [hs] at gn
        have c5 : ¬ ((¬ g 94 c = 0 ∨ g 68 c = 0) ∧ 0 < p_cd (fun j => g 73 (32 * c + j)) 8) := by rw [g94, g68, gd]; exact w5
        have n6 : ∀ {r : Prop}, ¬ p_ft (k_ln g c) 8 0 < 8 → r := fun r => absurd (by rw [gn]; exact w6) r
        refine s_m_step_c hg hc gb (fun r => absurd (g66.symm.trans r) u) (fun _ r => absurd (gw.mp w) r) (fun _ _ r => absurd (g84.trans w2) r) (fun _ _ _ r => absurd r (by rw [gr]; exact w3)) (fun _ _ _ _ r => absurd (gs.mp w4) r) (fun _ _ _ _ _ r r2 => absurd ⟨r, r2⟩ c5) (fun _ _ _ _ _ _ _ => ⟨rfl, tm, ?_⟩) (fun _ _ _ _ _ _ r => n6 r) (fun _ _ _ _ _ _ r => n6 r) (fun _ _ _ _ _ _ r => n6 r)
        rw [gn]
        exact rR_glue (rR_sip (rR_closed h2 hc hq.symm w6) hc hq.symm ⟨rfl, Or.inr (Or.inr (Or.inr (Or.inl ⟨Or.inr rfl, ⟨s, w6, rfl⟩, rfl⟩)))⟩) (fun a b r => by rw [k_sip_off (by omega), tw_off (by omega), gl a b r])
      · -- the flush is over
        obtain ⟨g, hg, h2, go, gl, gb, g66, g68, g84, g94, gw, gs, gd, gr, gn⟩ := com (tw_up f q 9 0) (fun a b r => tw_off (by omega))
        have c5 : ¬ ((¬ g 94 c = 0 ∨ g 68 c = 0) ∧ 0 < p_cd (fun j => g 73 (32 * c + j)) 8) := by rw [g94, g68, gd]; exact w5
        have n6 : ∀ {r : Prop}, p_ft (k_ln g c) 8 0 < 8 → r := fun r => absurd (by rw [gn] at r; exact r) w6
        exact s_m_step_c hg hc gb (fun r => absurd (g66.symm.trans r) u) (fun _ r => absurd (gw.mp w) r) (fun _ _ r => absurd (g84.trans w2) r) (fun _ _ _ r => absurd r (by rw [gr]; exact w3)) (fun _ _ _ _ r => absurd (gs.mp w4) r) (fun _ _ _ _ _ r r2 => absurd ⟨r, r2⟩ c5) (fun _ _ _ _ _ _ r => n6 r) (fun _ _ _ _ _ _ _ _ => ⟨rfl, tm, rR_glue (rR_flushed h2 hc hq.symm) (fun a b r => by rw [tw_off (by omega), gl a b r])⟩) (fun _ _ _ _ _ _ _ r => absurd (g94.symm.trans r) w7) (fun _ _ _ _ _ _ _ r => absurd (g94.symm.trans r) w7)
      · -- a beat
        have po : ∀ a b, 61 ≤ a → p_beat f q a b = f a b := fun a b r => by
          unfold p_beat
          split
          · rw [tw_off (by omega), p_sip_off hq2 (by omega)]
          · rw [tw_off (by omega), tw_off (by omega), p_sip_off hq2 (by omega)]
        have ko : ∀ (y : tw_S) a b, a < 61 → k_beat y c a b = y a b := fun y a b r => by
          unfold k_beat
          split
          · rw [tw_off (by omega), tw_off (by omega), k_send_off (by omega)]
          · rw [tw_off (by omega), k_send_off (by omega)]
        obtain ⟨g, hg, h2, go, gl, gb, g66, g68, g84, g94, gw, gs, gd, gr, gn⟩ := com (p_beat f q) po
        have c5 : ¬ ((¬ g 94 c = 0 ∨ g 68 c = 0) ∧ 0 < p_cd (fun j => g 73 (32 * c + j)) 8) := by rw [g94, g68, gd]; exact w5
        have n6 : ∀ {r : Prop}, p_ft (k_ln g c) 8 0 < 8 → r := fun r => absurd (by rw [gn] at r; exact r) w6
        exact s_m_step_c hg hc gb (fun r => absurd (g66.symm.trans r) u) (fun _ r => absurd (gw.mp w) r) (fun _ _ r => absurd (g84.trans w2) r) (fun _ _ _ r => absurd r (by rw [gr]; exact w3)) (fun _ _ _ _ r => absurd (gs.mp w4) r) (fun _ _ _ _ _ r r2 => absurd ⟨r, r2⟩ c5) (fun _ _ _ _ _ _ r => n6 r) (fun _ _ _ _ _ _ _ r => absurd (g94.trans w7) r) (fun _ _ _ _ _ _ _ _ _ => ⟨rfl, tm, rR_glue (rR_beat h2 hc hq.symm w8) (fun a b r => by rw [ko _ _ _ r, gl a b r])⟩) (fun _ _ _ _ _ _ _ _ r => absurd (g68.symm.trans r) w8)
      · -- nothing
        obtain ⟨g, hg, h2, go, gl, gb, g66, g68, g84, g94, gw, gs, gd, gr, gn⟩ := com f (fun _ _ _ => rfl)
        have c5 : ¬ ((¬ g 94 c = 0 ∨ g 68 c = 0) ∧ 0 < p_cd (fun j => g 73 (32 * c + j)) 8) := by rw [g94, g68, gd]; exact w5
        have n6 : ∀ {r : Prop}, p_ft (k_ln g c) 8 0 < 8 → r := fun r => absurd (by rw [gn] at r; exact r) w6
        exact s_m_step_c hg hc gb (fun r => absurd (g66.symm.trans r) u) (fun _ r => absurd (gw.mp w) r) (fun _ _ r => absurd (g84.trans w2) r) (fun _ _ _ r => absurd r (by rw [gr]; exact w3)) (fun _ _ _ _ r => absurd (gs.mp w4) r) (fun _ _ _ _ _ r r2 => absurd ⟨r, r2⟩ c5) (fun _ _ _ _ _ _ r => n6 r) (fun _ _ _ _ _ _ _ r => absurd (g94.trans w7) r) (fun _ _ _ _ _ _ _ _ r => absurd (g68.trans w8) r) (fun _ _ _ _ _ _ _ _ _ => ⟨rfl, tm, rR_glue h2 (fun a b w => gl a b w)⟩)
