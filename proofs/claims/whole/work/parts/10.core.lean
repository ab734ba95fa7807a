/-! Values, layouts and memories of the whole system: a cell has a number, its ints are a function of number and place; a layout says what each cell is. -/
abbrev tw_A : Type := Int32 ⊕ (Option Nat ⊕ (Int32 ⊕ Unit))
abbrev tw_I (x : Int32) : tw_A := Sum.inl x
abbrev tw_R (q : Nat) : tw_A := Sum.inr (Sum.inl (some q))
abbrev tw_J (x : Int32) : tw_A := Sum.inr (Sum.inr (Sum.inl x))
abbrev tw_Z : tw_A := Sum.inr (Sum.inr (Sum.inr ()))
abbrev tw_K : Type := Nat × Nat × List (Option Nat)
abbrev tw_L : Type := List tw_K
abbrev tw_S : Type := Nat → Nat → Int32
def tw_nz (x : Int32) : Int32 := if x = 0 then 0 else 1
def tw_up (f : tw_S) (q i : Nat) (x : Int32) : tw_S := fun q' i' => if q' = q ∧ i' = i then x else f q' i'
def tw_v (b z : Nat) (a : tw_A) : Value := match a with
  | .inl x => .int x
  | .inr (.inl r) => va_rf (r.map (fun q => b + q))
  | .inr (.inr (.inl x)) => .long x.toInt64
  | .inr (.inr (.inr _)) => .ref z
def tw_ct (a : tw_A) : Nat := match a with
  | .inr (.inr (.inl _)) => 2
  | _ => 1
theorem tw_ct_v (b z : Nat) (a : tw_A) : (tw_v b z a).category = tw_ct a := by
  rcases a with x | r | x | u
  · rfl
  · cases r <;> rfl
  · rfl
  · rfl
theorem tw_nz_01 (x : Int32) : tw_nz x = 0 ∨ tw_nz x = 1 := by
  unfold tw_nz
  split
  · exact Or.inl rfl
  · exact Or.inr rfl
theorem tw_nz_of {x : Int32} (h : x = 0 ∨ x = 1) : tw_nz x = x := by
  rcases h with rfl | rfl
  · rfl
  · rfl
def tw_fv (t b : Nat) (r : Option Nat) (x : Int32) : Value := if t = 2 then va_rf (r.map (fun q => b + q)) else if t = 1 then .int (tw_nz x) else .int x
def tw_fa (t : Nat) (r : Option Nat) (x : Int32) : tw_A := if t = 2 then Sum.inr (Sum.inl r) else if t = 1 then tw_I (tw_nz x) else tw_I x
theorem tw_fa_v (b z t : Nat) (r : Option Nat) (x : Int32) : tw_v b z (tw_fa t r x) = tw_fv t b r x := by
  unfold tw_fa tw_fv
  by_cases h2 : t = 2
  · simp only [h2, if_true]; rfl
  · by_cases h1 : t = 1
    · simp only [if_neg h2, if_pos h1]; rfl
    · simp only [if_neg h2, if_neg h1]; rfl
def tw_fs (ft : Nat → Nat → Nat) (b q : Nat) (k : tw_K) (f : tw_S) : List Value := (List.range k.2.1).map fun i => tw_fv (ft k.1 i) b (k.2.2.getD i none) (f q i)
def tw_ar (t n : Nat) (f : Nat → Int32) : vp_A := if t = 100 then (n, .inl f) else if t = 101 then (n, .inl (fun j => tw_nz (f j))) else (n, .inr (.inl (fun j => (f j).toInt64)))
def tw_e (ft : Nat → Nat → Nat) (cA : Nat → ClassId) (b q : Nat) (k : tw_K) (f : tw_S) : va_E := if k.1 < 100 then .inr (k.1, tw_fs ft b q k f) else .inl (cA k.1, tw_ar k.1 k.2.1 (f q))
def tw_ws (ft : Nat → Nat → Nat) (cA : Nat → ClassId) (b : Nat) (L : tw_L) (f : tw_S) : va_W := L.mapIdx (fun q k => (b + q, tw_e ft cA b q k f))
section WORLD
variable {cl : List vw_C} {ft : Nat → Nat → Nat} {D : va_G} {cA : Nat → ClassId} {b : Nat} {fl : Bool} {L L' : tw_L} {f f' : tw_S} {H H1 : Heap} {q : Nat} {k : tw_K}
theorem tw_ws_at (h : L[q]? = some k) : (tw_ws ft cA b L f)[q]? = some (b + q, tw_e ft cA b q k f) := by
  unfold tw_ws
  rw [List.getElem?_mapIdx, h]
  rfl
theorem tw_ws_inv {i : Nat} {p : Nat × va_E} (h : (tw_ws ft cA b L f)[i]? = some p) : ∃ k, L[i]? = some k ∧ p = (b + i, tw_e ft cA b i k f) := by
  unfold tw_ws at h
  rw [List.getElem?_mapIdx] at h
  cases hk : L[i]? with
  | none => rw [hk] at h; cases h
  | some k => rw [hk] at h; exact ⟨k, rfl, (Option.some.inj h).symm⟩
theorem tw_D : va_D (fun x => b ≤ x) (tw_ws ft cA b L f) := by
  refine ⟨fun i j p r hi hj hpr => ?_, fun i p hi => ?_⟩
  · obtain ⟨k1, -, rfl⟩ := tw_ws_inv hi
    obtain ⟨k2, -, rfl⟩ := tw_ws_inv hj
    have h : b + i = b + j := hpr
    omega
  · obtain ⟨k1, -, rfl⟩ := tw_ws_inv hi
    exact Nat.le_add_right b i
def tw_W (cl : List vw_C) (ft : Nat → Nat → Nat) (D : va_G) (cA : Nat → ClassId) (b : Nat) (fl : Bool) (L : tw_L) (f : tw_S) (H : Heap) : Prop :=
  va_P D cl (tw_ws ft cA b L f) H ∧ b + L.length ≤ H.size ∧ (fl = true → H.size = b + L.length) ∧ ∀ (x : Nat) (cell : Cell), b ≤ x → H[x]? = some cell → cell.vm.isStatics = false
theorem va_at_ns {D : va_G} {cl : List vw_C} {q : Nat × va_E} {H : Heap} (h : va_at D cl q H) {cell : Cell} (hc : H[q.1]? = some cell) : cell.vm.isStatics = false := by
  obtain ⟨x, e⟩ := q
  cases e with
  | inl a =>
    have h2 : H[x]? = some (vp_cell a.1 a.2) := h
    have h3 : cell = vp_cell a.1 a.2 := Option.some.inj (hc.symm.trans h2)
    rw [h3]
    obtain ⟨c1, n1, a1⟩ := a
    rcases a1 with f | f | f | f | f <;> rfl
  | inr o =>
    obtain ⟨r, -, c2, h2, -, h3, -⟩ := h
    have h4 : cell = c2 := Option.some.inj (hc.symm.trans h2)
    rw [h4, h3]
    rfl
theorem tw_W.at (h : tw_W cl ft D cA b fl L f H) (hq : L[q]? = some k) : va_at D cl (b + q, tw_e ft cA b q k f) H := h.1 q _ (tw_ws_at hq)
theorem tw_W.put (h : tw_W cl ft D cA b fl L f H) (hl : L'.length = L.length) (hL : ∀ i, i ≠ q → L'[i]? = L[i]?) (hf : ∀ i, i ≠ q → f' i = f i) (hq : L'[q]? = some k) (he : va_at D cl (b + q, tw_e ft cA b q k f') H1) (hz : H1.size = H.size) (ho : ∀ x : Nat, x ≠ b + q → H1[x]? = H[x]?) : tw_W cl ft D cA b fl L' f' H1 := by
  refine ⟨fun i p hp => ?_, by rw [hz, hl]; exact h.2.1, fun g => by rw [hz, hl]; exact h.2.2.1 g, fun x cell hx hc => ?_⟩
  rotate_left
  · by_cases hq2 : x = b + q
    · subst hq2
      exact va_at_ns he hc
    · exact h.2.2.2 x cell hx ((ho x hq2).symm.trans hc)
  obtain ⟨k1, hk1, rfl⟩ := tw_ws_inv hp
  by_cases hi : i = q
  · subst hi
    rw [hq] at hk1
    cases hk1
    exact he
  · rw [hL i hi] at hk1
    have h2 : tw_e ft cA b i k1 f' = tw_e ft cA b i k1 f := by
      unfold tw_e tw_fs
      rw [hf i hi]
    rw [h2]
    exact (h.at hk1).kept (ho _ (by show b + i ≠ b + q; omega))
theorem tw_W.push (h : tw_W cl ft D cA b true L f H) (hf : ∀ i, i < L.length → f' i = f i) (he : va_at D cl (b + L.length, tw_e ft cA b L.length k f') H1) (hz : H1.size = H.size + 1) (ho : ∀ x : Nat, x < H.size → H1[x]? = H[x]?) : tw_W cl ft D cA b true (L ++ [k]) f' H1 := by
  have hs := h.2.2.1 rfl
  refine ⟨fun i p hp => ?_, by rw [hz, hs, List.length_append]; exact Nat.le_refl _, fun _ => by rw [hz, hs, List.length_append]; rfl, fun x cell hx hc => ?_⟩
  rotate_left
  · by_cases hq2 : x = b + L.length
    · subst hq2
      exact va_at_ns he hc
    · have hlt : x < H1.size := (Array.getElem?_eq_some_iff.mp hc).1
      exact h.2.2.2 x cell hx ((ho x (by omega)).symm.trans hc)
  obtain ⟨k1, hk1, rfl⟩ := tw_ws_inv hp
  by_cases hi : i < L.length
  · rw [List.getElem?_append_left hi] at hk1
    have h2 : tw_e ft cA b i k1 f' = tw_e ft cA b i k1 f := by
      unfold tw_e tw_fs
      rw [hf i hi]
    rw [h2]
    exact (h.at hk1).kept (ho _ (by show b + i < H.size; omega))
  · rw [List.getElem?_append_right (by omega)] at hk1
    have hlt : i - L.length < 1 := (List.getElem?_eq_some_iff.mp hk1).1
    have hi2 : i = L.length := by omega
    subst hi2
    rw [Nat.sub_self] at hk1
    cases hk1
    exact he
theorem tw_fs_at {i : Nat} (h : i < k.2.1) : (tw_fs ft b q k f)[i]? = some (tw_fv (ft k.1 i) b (k.2.2.getD i none) (f q i)) := by
  unfold tw_fs
  rw [List.getElem?_map, List.getElem?_range h]
  rfl
theorem tw_fs_len : (tw_fs ft b q k f).length = k.2.1 := by
  unfold tw_fs
  rw [List.length_map, List.length_range]
/-- one cell more behind the layout -/
theorem tw_W.more (h : tw_W cl ft D cA b false L f H) (hz : H.size ≤ H1.size) (ho : ∀ x : Nat, x < H.size → H1[x]? = H[x]?) (hn : ∀ (x : Nat) (cell : Cell), H.size ≤ x → H1[x]? = some cell → cell.vm.isStatics = false) : tw_W cl ft D cA b false L f H1 := by
  refine ⟨fun i p hp => ?_, Nat.le_trans h.2.1 hz, fun g => (by cases g), fun x cell hx hc => ?_⟩
  · obtain ⟨k1, hk1, rfl⟩ := tw_ws_inv hp
    have hlt : i < L.length := (List.getElem?_eq_some_iff.mp hk1).1
    exact (h.at hk1).kept (ho _ (by show b + i < H.size; have h9 := h.2.1; omega))
  · by_cases h2 : x < H.size
    · exact h.2.2.2 x cell hx ((ho x h2).symm.trans hc)
    · exact hn x cell (by omega) hc
theorem tw_W.down (h : tw_W cl ft D cA b fl L f H) : tw_W cl ft D cA b false L f H := ⟨h.1, h.2.1, fun g => (by cases g), h.2.2.2⟩
end WORLD
/-- the locals: what is known of them -/
def tw_lh (b z nL : Nat) (ls : List (Option tw_A)) (la : Array Slot) : Prop := la.size = nL ∧ lv_wf la ∧ ls.length ≤ nL ∧ ∀ (i : Nat) (v : tw_A), ls[i]? = some (some v) → la[i]? = some (.val (tw_v b z v)) ∧ tw_ct v = 1
def tw_ll (b z : Nat) (ls : List (Option tw_A)) : List (Nat × Value) := (ls.mapIdx (fun i o => o.map (fun v => (i, tw_v b z v)))).filterMap id
theorem tw_ll_mem {b z : Nat} {ls : List (Option tw_A)} {i : Nat} {v : tw_A} (h : ls[i]? = some (some v)) : (i, tw_v b z v) ∈ tw_ll b z ls := by
  unfold tw_ll
  rw [List.mem_filterMap]
  refine ⟨some (i, tw_v b z v), ?_, rfl⟩
  refine List.mem_of_getElem? (i := i) ?_
  rw [List.getElem?_mapIdx, h]
  rfl
theorem tw_ll_of {b z : Nat} {ls : List (Option tw_A)} {p : Nat × Value} (h : p ∈ tw_ll b z ls) : ∃ v, ls[p.1]? = some (some v) ∧ p.2 = tw_v b z v := by
  unfold tw_ll at h
  rw [List.mem_filterMap] at h
  obtain ⟨o, ho, he⟩ := h
  obtain ⟨i, hi⟩ := List.getElem?_of_mem ho
  rw [List.getElem?_mapIdx] at hi
  cases hl : ls[i]? with
  | none => rw [hl] at hi; cases hi
  | some w =>
    rw [hl] at hi
    have h1 : w.map (fun v => (i, tw_v b z v)) = o := Option.some.inj hi
    have h2 : o = some p := he
    cases w with
    | none => rw [← h1] at h2; cases h2
    | some v =>
      rw [← h1] at h2
      have h3 : (i, tw_v b z v) = p := Option.some.inj h2
      subst h3
      exact ⟨v, hl, rfl⟩
theorem tw_lh.has {b z nL : Nat} {ls : List (Option tw_A)} {la : Array Slot} (h : tw_lh b z nL ls la) : lv_has la nL (tw_ll b z ls) := by
  refine ⟨h.1, h.2.1, fun p hp => ?_⟩
  obtain ⟨v, h1, h2⟩ := tw_ll_of hp
  rw [h2]
  exact (h.2.2.2 _ _ h1).1
theorem tw_lh.set {b z nL i : Nat} {ls : List (Option tw_A)} {la la' : Array Slot} {v : tw_A} (h : tw_lh b z nL ls la) (hv : tw_ct v = 1) (hi : i < nL)
    (h' : lv_has la' nL ((i, tw_v b z v) :: (tw_ll b z ls).filter (fun q => !(q.1 == i) && !(q.1 + 1 == i && q.2.category == 2)))) : tw_lh b z nL (ls.set i (some v)) la' := by
  refine ⟨h'.1, h'.2.1, by rw [List.length_set]; exact h.2.2.1, fun j w hj => ?_⟩
  by_cases hji : i = j
  · subst hji
    have hlt : i < ls.length := by
      have := (List.getElem?_eq_some_iff.mp hj).1
      rwa [List.length_set] at this
    rw [List.getElem?_set_self hlt] at hj
    cases hj
    exact ⟨h'.2.2 _ List.mem_cons_self, hv⟩
  · rw [List.getElem?_set_ne hji] at hj
    refine ⟨h'.2.2 (j, tw_v b z w) (List.mem_cons_of_mem _ (List.mem_filter.mpr ⟨tw_ll_mem hj, ?_⟩)), (h.2.2.2 _ _ hj).2⟩
    have hc : (tw_v b z w).category = 1 := by rw [tw_ct_v]; exact (h.2.2.2 _ _ hj).2
    have h1 : (j == i) = false := by simpa using fun e => hji e.symm
    simp [h1, hc]
