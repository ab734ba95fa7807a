/-! The law's table is right, in pieces. -/
def tw_cg (lk : tw_LK) (mt : List tw_MR) (sw : tw_SW) (r : tw_MR) (lo n : Nat) : Bool := (((r.2.2.2.2.2.2.2.drop lo).take n).zipIdx lo).all (fun x => tw_ck lk mt sw r x.2 x.1)
theorem tw_cg_at {lk : tw_LK} {mt : List tw_MR} {sw : tw_SW} {r : tw_MR} {lo n ix : Nat} {x : Nat × tw_O} (h : tw_cg lk mt sw r lo n = true) (h1 : lo ≤ ix) (h2 : ix < lo + n) (hx : r.2.2.2.2.2.2.2[ix]? = some x) : tw_ck lk mt sw r ix x = true := by
  unfold tw_cg at h
  refine List.all_eq_true.mp h (x, ix) (List.mem_of_getElem? (i := ix - lo) ?_)
  rw [List.getElem?_zipIdx, List.getElem?_take, if_pos (by omega), List.getElem?_drop, show lo + (ix - lo) = ix by omega, hx]
  simp
theorem tw_cm_of {lk : tw_LK} {mt : List tw_MR} {sw : tw_SW} {r : tw_MR} (h : ∀ (ix : Nat) (x : Nat × tw_O), r.2.2.2.2.2.2.2[ix]? = some x → tw_ck lk mt sw r ix x = true) : tw_cm lk mt sw r = true := by
  unfold tw_cm
  refine List.all_eq_true.mpr (fun y hy => ?_)
  obtain ⟨i, hi⟩ := List.getElem?_of_mem hy
  rw [List.getElem?_zipIdx] at hi
  cases hr : r.2.2.2.2.2.2.2[i]? with
  | none => rw [hr] at hi; cases hi
  | some x =>
    rw [hr] at hi
    have h2 : (x, 0 + i) = y := Option.some.inj hi
    subst h2
    rw [Nat.zero_add]
    exact h i x hr
set_option maxRecDepth 20000 in
theorem tx_cL0 : tw_cg tx_lk tx_mt tx_sw tx_mL 0 46 = true := by decide +kernel
set_option maxRecDepth 20000 in
theorem tx_cL1 : tw_cg tx_lk tx_mt tx_sw tx_mL 46 46 = true := by decide +kernel
set_option maxRecDepth 20000 in
theorem tx_cL2 : tw_cg tx_lk tx_mt tx_sw tx_mL 92 46 = true := by decide +kernel
set_option maxRecDepth 20000 in
theorem tx_cL3 : tw_cg tx_lk tx_mt tx_sw tx_mL 138 46 = true := by decide +kernel
set_option maxRecDepth 20000 in
theorem tx_cL4 : tw_cg tx_lk tx_mt tx_sw tx_mL 184 46 = true := by decide +kernel
set_option maxRecDepth 20000 in
theorem tx_cL5 : tw_cg tx_lk tx_mt tx_sw tx_mL 230 46 = true := by decide +kernel
set_option maxRecDepth 20000 in
theorem tx_cL6 : tw_cg tx_lk tx_mt tx_sw tx_mL 276 46 = true := by decide +kernel
set_option maxRecDepth 20000 in
theorem tx_cL7 : tw_cg tx_lk tx_mt tx_sw tx_mL 322 46 = true := by decide +kernel
set_option maxRecDepth 20000 in
theorem tx_cL8 : tw_cg tx_lk tx_mt tx_sw tx_mL 368 46 = true := by decide +kernel
set_option maxRecDepth 20000 in
theorem tx_cL9 : tw_cg tx_lk tx_mt tx_sw tx_mL 414 46 = true := by decide +kernel
set_option maxRecDepth 20000 in
theorem tx_cL10 : tw_cg tx_lk tx_mt tx_sw tx_mL 460 46 = true := by decide +kernel
theorem tx_lL : tx_mL.2.2.2.2.2.2.2.length = 493 := by decide +kernel
theorem tx_cL : tw_cm tx_lk tx_mt tx_sw tx_mL = true := by
  refine tw_cm_of (fun ix x hx => ?_)
  have hlt : ix < tx_mL.2.2.2.2.2.2.2.length := (List.getElem?_eq_some_iff.mp hx).1
  rw [tx_lL] at hlt
  by_cases h0 : ix < 46
  · exact tw_cg_at tx_cL0 (by omega) (by omega) hx
  by_cases h1 : ix < 92
  · exact tw_cg_at tx_cL1 (by omega) (by omega) hx
  by_cases h2 : ix < 138
  · exact tw_cg_at tx_cL2 (by omega) (by omega) hx
  by_cases h3 : ix < 184
  · exact tw_cg_at tx_cL3 (by omega) (by omega) hx
  by_cases h4 : ix < 230
  · exact tw_cg_at tx_cL4 (by omega) (by omega) hx
  by_cases h5 : ix < 276
  · exact tw_cg_at tx_cL5 (by omega) (by omega) hx
  by_cases h6 : ix < 322
  · exact tw_cg_at tx_cL6 (by omega) (by omega) hx
  by_cases h7 : ix < 368
  · exact tw_cg_at tx_cL7 (by omega) (by omega) hx
  by_cases h8 : ix < 414
  · exact tw_cg_at tx_cL8 (by omega) (by omega) hx
  by_cases h9 : ix < 460
  · exact tw_cg_at tx_cL9 (by omega) (by omega) hx
  by_cases h10 : ix < 506
  · exact tw_cg_at tx_cL10 (by omega) (by omega) hx
  omega
