/-! Names and tables of the classes: made by program out of the Statement's words and javap's listing. -/
def tx_n (k : Nat) : String := ["TwinArray$Controller", "TwinArray$Destage", "TwinArray$DiskWrite", "TwinArray$Disks", "TwinArray$Entries", "TwinArray$Inbox", "TwinArray$LateWrites", "TwinArray$Tickets", "TwinArray", "TwinArrayModel", "TwinArrayLaw"].getD k ""
def tx_T0 : u_T := fun k => match k with
  | 0 => ("TwinArray$Controller", "number", "I", true)
  | 1 => ("TwinArray$Controller", "cache", "LTwinArray$Entries;", true)
  | 2 => ("TwinArray$Controller", "mirror", "LTwinArray$Entries;", true)
  | 3 => ("TwinArray$Controller", "inbox", "LTwinArray$Inbox;", true)
  | 4 => ("TwinArray$Controller", "destage", "LTwinArray$Destage;", true)
  | 5 => ("TwinArray$Controller", "write", "LTwinArray$DiskWrite;", true)
  | 6 => ("TwinArray$Controller", "up", "Z", false)
  | 7 => ("TwinArray$Controller", "paired", "Z", false)
  | 8 => ("TwinArray$Controller", "takingOver", "Z", false)
  | 9 => ("TwinArray$Controller", "toFlush", "Z", false)
  | 10 => ("TwinArray$Controller", "key", "I", false)
  | 11 => ("TwinArray$Controller", "owned", "I", false)
  | 12 => ("TwinArray$Controller", "notes", "I", false)
  | 13 => ("TwinArray$Controller", "remarks", "I", false)
  | 14 => ("TwinArray$Controller", "repairs", "I", false)
  | 15 => ("TwinArray$Controller", "missedBeats", "I", false)
  | 16 => ("TwinArray$Controller", "versionsGiven", "I", false)
  | 17 => ("TwinArray$Controller", "nextDisk", "I", false)
  | _ => ("TwinArray$Controller", "disksTaken", "I", false)
def tx_y0 : Nat → FieldType := fun k => match k with
  | 0 => .int
  | 1 => .object "TwinArray$Entries"
  | 2 => .object "TwinArray$Entries"
  | 3 => .object "TwinArray$Inbox"
  | 4 => .object "TwinArray$Destage"
  | 5 => .object "TwinArray$DiskWrite"
  | 6 => .boolean
  | 7 => .boolean
  | 8 => .boolean
  | 9 => .boolean
  | 10 => .int
  | 11 => .int
  | 12 => .int
  | 13 => .int
  | 14 => .int
  | 15 => .int
  | 16 => .int
  | 17 => .int
  | _ => .int
def tx_T1 : u_T := fun k => match k with
  | 0 => ("TwinArray$Destage", "wasDirty", "[Z", true)
  | 1 => ("TwinArray$Destage", "values", "[I", true)
  | 2 => ("TwinArray$Destage", "versions", "[I", true)
  | 3 => ("TwinArray$Destage", "stripe", "I", false)
  | 4 => ("TwinArray$Destage", "nextPlace", "I", false)
  | 5 => ("TwinArray$Destage", "dataLost", "Z", false)
  | _ => ("TwinArray$Destage", "parityPassed", "Z", false)
def tx_y1 : Nat → FieldType := fun k => match k with
  | 0 => .array .boolean
  | 1 => .array .int
  | 2 => .array .int
  | 3 => .int
  | 4 => .int
  | 5 => .boolean
  | _ => .boolean
def tx_T2 : u_T := fun k => match k with
  | 0 => ("TwinArray$DiskWrite", "underWay", "Z", false)
  | 1 => ("TwinArray$DiskWrite", "disk", "I", false)
  | 2 => ("TwinArray$DiskWrite", "stripe", "I", false)
  | 3 => ("TwinArray$DiskWrite", "value", "I", false)
  | _ => ("TwinArray$DiskWrite", "key", "I", false)
def tx_y2 : Nat → FieldType := fun k => match k with
  | 0 => .boolean
  | 1 => .int
  | 2 => .int
  | 3 => .int
  | _ => .int
def tx_T3 : u_T := fun k => match k with
  | 0 => ("TwinArray$Disks", "there", "[Z", true)
  | 1 => ("TwinArray$Disks", "keys", "[I", true)
  | 2 => ("TwinArray$Disks", "blocks", "[I", true)
  | _ => ("TwinArray$Disks", "missing", "[Z", true)
def tx_y3 : Nat → FieldType := fun k => match k with
  | 0 => .array .boolean
  | 1 => .array .int
  | 2 => .array .int
  | _ => .array .boolean
def tx_T4 : u_T := fun k => match k with
  | 0 => ("TwinArray$Entries", "held", "[Z", true)
  | 1 => ("TwinArray$Entries", "dirty", "[Z", true)
  | 2 => ("TwinArray$Entries", "values", "[I", true)
  | _ => ("TwinArray$Entries", "versions", "[I", true)
def tx_y4 : Nat → FieldType := fun k => match k with
  | 0 => .array .boolean
  | 1 => .array .boolean
  | 2 => .array .int
  | _ => .array .int
def tx_T5 : u_T := fun k => match k with
  | 0 => ("TwinArray$Inbox", "kinds", "[I", true)
  | 1 => ("TwinArray$Inbox", "places", "[I", true)
  | 2 => ("TwinArray$Inbox", "values", "[I", true)
  | 3 => ("TwinArray$Inbox", "versions", "[I", true)
  | 4 => ("TwinArray$Inbox", "tickets", "[I", true)
  | 5 => ("TwinArray$Inbox", "first", "I", false)
  | _ => ("TwinArray$Inbox", "count", "I", false)
def tx_y5 : Nat → FieldType := fun k => match k with
  | 0 => .array .int
  | 1 => .array .int
  | 2 => .array .int
  | 3 => .array .int
  | 4 => .array .int
  | 5 => .int
  | _ => .int
def tx_T6 : u_T := fun k => match k with
  | 0 => ("TwinArray$LateWrites", "disks", "[I", true)
  | 1 => ("TwinArray$LateWrites", "stripes", "[I", true)
  | 2 => ("TwinArray$LateWrites", "values", "[I", true)
  | 3 => ("TwinArray$LateWrites", "keys", "[I", true)
  | _ => ("TwinArray$LateWrites", "count", "I", false)
def tx_y6 : Nat → FieldType := fun k => match k with
  | 0 => .array .int
  | 1 => .array .int
  | 2 => .array .int
  | 3 => .array .int
  | _ => .int
def tx_T7 : u_T := fun k => match k with
  | 0 => ("TwinArray$Tickets", "states", "[I", true)
  | 1 => ("TwinArray$Tickets", "values", "[I", true)
  | 2 => ("TwinArray$Tickets", "controllers", "[I", true)
  | 3 => ("TwinArray$Tickets", "blocks", "[I", true)
  | 4 => ("TwinArray$Tickets", "versions", "[I", true)
  | _ => ("TwinArray$Tickets", "count", "I", false)
def tx_y7 : Nat → FieldType := fun k => match k with
  | 0 => .array .int
  | 1 => .array .int
  | 2 => .array .int
  | 3 => .array .int
  | 4 => .array .int
  | _ => .int
def tx_T8 : u_T := fun k => match k with
  | 0 => ("TwinArray", "disks", "LTwinArray$Disks;", true)
  | 1 => ("TwinArray", "tickets", "LTwinArray$Tickets;", true)
  | 2 => ("TwinArray", "lateWrites", "LTwinArray$LateWrites;", true)
  | 3 => ("TwinArray", "zero", "LTwinArray$Controller;", true)
  | 4 => ("TwinArray", "one", "LTwinArray$Controller;", true)
  | _ => ("TwinArray", "linkIsCut", "Z", false)
def tx_y8 : Nat → FieldType := fun k => match k with
  | 0 => .object "TwinArray$Disks"
  | 1 => .object "TwinArray$Tickets"
  | 2 => .object "TwinArray$LateWrites"
  | 3 => .object "TwinArray$Controller"
  | 4 => .object "TwinArray$Controller"
  | _ => .boolean
def tx_T9 : u_T := fun k => match k with
  | 0 => ("TwinArrayModel", "thrownCode", "I", false)
  | 1 => ("TwinArrayModel", "there", "[Z", true)
  | 2 => ("TwinArrayModel", "keys", "[I", true)
  | 3 => ("TwinArrayModel", "blocks", "[I", true)
  | 4 => ("TwinArrayModel", "missing", "[Z", true)
  | 5 => ("TwinArrayModel", "up", "[Z", true)
  | 6 => ("TwinArrayModel", "key", "[I", true)
  | 7 => ("TwinArrayModel", "paired", "[Z", true)
  | 8 => ("TwinArrayModel", "owns", "[Z", true)
  | 9 => ("TwinArrayModel", "has", "[Z", true)
  | 10 => ("TwinArrayModel", "cached", "[I", true)
  | 11 => ("TwinArrayModel", "version", "[I", true)
  | 12 => ("TwinArrayModel", "dirty", "[Z", true)
  | 13 => ("TwinArrayModel", "mirrored", "[Z", true)
  | 14 => ("TwinArrayModel", "mirror", "[I", true)
  | 15 => ("TwinArrayModel", "mirrorVersion", "[I", true)
  | 16 => ("TwinArrayModel", "note", "[Z", true)
  | 17 => ("TwinArrayModel", "remark", "[Z", true)
  | 18 => ("TwinArrayModel", "repair", "[Z", true)
  | 19 => ("TwinArrayModel", "wayDisk", "[I", true)
  | 20 => ("TwinArrayModel", "wayStripe", "[I", true)
  | 21 => ("TwinArrayModel", "wayValue", "[I", true)
  | 22 => ("TwinArrayModel", "wayKey", "[I", true)
  | 23 => ("TwinArrayModel", "taking", "[Z", true)
  | 24 => ("TwinArrayModel", "takeNext", "[I", true)
  | 25 => ("TwinArrayModel", "takeCount", "[I", true)
  | 26 => ("TwinArrayModel", "stripeOf", "[I", true)
  | 27 => ("TwinArrayModel", "stage", "[I", true)
  | 28 => ("TwinArrayModel", "took", "[Z", true)
  | 29 => ("TwinArrayModel", "tookValue", "[I", true)
  | 30 => ("TwinArrayModel", "tookVersion", "[I", true)
  | 31 => ("TwinArrayModel", "parity", "[I", true)
  | 32 => ("TwinArrayModel", "parityKnown", "[Z", true)
  | 33 => ("TwinArrayModel", "flushing", "[Z", true)
  | 34 => ("TwinArrayModel", "missed", "[I", true)
  | 35 => ("TwinArrayModel", "given", "[I", true)
  | 36 => ("TwinArrayModel", "message", "[I", true)
  | 37 => ("TwinArrayModel", "messages", "[I", true)
  | 38 => ("TwinArrayModel", "isCut", "Z", false)
  | 39 => ("TwinArrayModel", "tickets", "I", false)
  | 40 => ("TwinArrayModel", "ticketState", "[I", true)
  | 41 => ("TwinArrayModel", "ticketValue", "[I", true)
  | 42 => ("TwinArrayModel", "ticketOf", "[I", true)
  | 43 => ("TwinArrayModel", "ticketBlock", "[I", true)
  | 44 => ("TwinArrayModel", "ticketVersion", "[I", true)
  | 45 => ("TwinArrayModel", "lates", "I", false)
  | 46 => ("TwinArrayModel", "lateDisk", "[I", true)
  | 47 => ("TwinArrayModel", "lateStripe", "[I", true)
  | 48 => ("TwinArrayModel", "lateValue", "[I", true)
  | _ => ("TwinArrayModel", "lateKey", "[I", true)
def tx_y9 : Nat → FieldType := fun k => match k with
  | 0 => .int
  | 1 => .array .boolean
  | 2 => .array .int
  | 3 => .array .int
  | 4 => .array .boolean
  | 5 => .array .boolean
  | 6 => .array .int
  | 7 => .array .boolean
  | 8 => .array .boolean
  | 9 => .array .boolean
  | 10 => .array .int
  | 11 => .array .int
  | 12 => .array .boolean
  | 13 => .array .boolean
  | 14 => .array .int
  | 15 => .array .int
  | 16 => .array .boolean
  | 17 => .array .boolean
  | 18 => .array .boolean
  | 19 => .array .int
  | 20 => .array .int
  | 21 => .array .int
  | 22 => .array .int
  | 23 => .array .boolean
  | 24 => .array .int
  | 25 => .array .int
  | 26 => .array .int
  | 27 => .array .int
  | 28 => .array .boolean
  | 29 => .array .int
  | 30 => .array .int
  | 31 => .array .int
  | 32 => .array .boolean
  | 33 => .array .boolean
  | 34 => .array .int
  | 35 => .array .int
  | 36 => .array .int
  | 37 => .array .int
  | 38 => .boolean
  | 39 => .int
  | 40 => .array .int
  | 41 => .array .int
  | 42 => .array .int
  | 43 => .array .int
  | 44 => .array .int
  | 45 => .int
  | 46 => .array .int
  | 47 => .array .int
  | 48 => .array .int
  | _ => .array .int
def tx_cl : List vw_C := [("TwinArray$Controller", tx_T0, 19), ("TwinArray$Destage", tx_T1, 7), ("TwinArray$DiskWrite", tx_T2, 5), ("TwinArray$Disks", tx_T3, 4), ("TwinArray$Entries", tx_T4, 4), ("TwinArray$Inbox", tx_T5, 7), ("TwinArray$LateWrites", tx_T6, 5), ("TwinArray$Tickets", tx_T7, 6), ("TwinArray", tx_T8, 6), ("TwinArrayModel", tx_T9, 50)]
def tx_ft (c k : Nat) : Nat := ([[0, 2, 2, 2, 2, 2, 1, 1, 1, 1, 0, 0, 0, 0, 0, 0, 0, 0, 0], [2, 2, 2, 0, 0, 1, 1], [1, 0, 0, 0, 0], [2, 2, 2, 2], [2, 2, 2, 2], [2, 2, 2, 2, 2, 0, 0], [2, 2, 2, 2, 0], [2, 2, 2, 2, 2, 0], [2, 2, 2, 2, 2, 1], [0, 2, 2, 2, 2, 2, 2, 2, 2, 2, 2, 2, 2, 2, 2, 2, 2, 2, 2, 2, 2, 2, 2, 2, 2, 2, 2, 2, 2, 2, 2, 2, 2, 2, 2, 2, 2, 2, 1, 0, 2, 2, 2, 2, 2, 0, 2, 2, 2, 2]].getD c []).getD k 0
def tx_ty (c : Nat) : Nat → FieldType := match c with
  | 0 => tx_y0
  | 1 => tx_y1
  | 2 => tx_y2
  | 3 => tx_y3
  | 4 => tx_y4
  | 5 => tx_y5
  | 6 => tx_y6
  | 7 => tx_y7
  | 8 => tx_y8
  | _ => tx_y9
def tx_Nm : List tw_N := [("TwinArray", 18, ⟨"TwinArray$Tickets", "<init>", "()V"⟩, "TwinArray"), ("TwinArray", 25, ⟨"TwinArray$LateWrites", "<init>", "()V"⟩, "TwinArray"), ("TwinArray$Controller", 11, ⟨"TwinArray$Entries", "<init>", "()V"⟩, "TwinArray"), ("TwinArray$Controller", 23, ⟨"TwinArray$Inbox", "<init>", "()V"⟩, "TwinArray"), ("TwinArray$Controller", 30, ⟨"TwinArray$Destage", "<init>", "()V"⟩, "TwinArray"), ("TwinArray$Controller", 37, ⟨"TwinArray$DiskWrite", "<init>", "()V"⟩, "TwinArray"), ("TwinArray$Controller", 86, ⟨"TwinArray", "isIn", "(II)Z"⟩, "TwinArray"), ("TwinArray$Disks", 45, ⟨"TwinArray", "dataDisk", "(II)I"⟩, "TwinArray")]
def tx_Ts : List Cond := lw_tbl.filter goodWord
theorem tx_in {x : Cond} (i : Nat) (h : tables_1[i]? = some x) (g : goodWord x = true) : x ∈ tx_Ts := List.mem_filter.mpr ⟨List.mem_append_right _ (List.mem_of_getElem? h), g⟩
theorem tx_inS {x : Cond} (i : Nat) (h : (k2_sels lw_privs)[i]? = some x) (g : goodWord x = true) : x ∈ tx_Ts := List.mem_filter.mpr ⟨List.mem_append_left _ (List.mem_of_getElem? h), g⟩
theorem tx_inL {ws : List Cond} (ps : List Nat) (hp : ws = ps.filterMap (fun i => tables_1[i]?)) (h : ws.all goodWord = true) : ∀ x ∈ ws, x ∈ tx_Ts := by
  intro x hx
  have h1 := List.all_eq_true.mp h x hx
  rw [hp] at hx
  obtain ⟨i, -, hi⟩ := List.mem_filterMap.mp hx
  exact tx_in i hi h1
theorem tx_C0 : tw_C tx_ft tx_Ts 0 ("TwinArray$Controller", tx_T0, 19) tx_y0 := by
  refine ⟨tx_inL [271, 273, 275, 277, 279, 281, 283, 285, 287, 289, 291, 293, 295, 297, 299, 301, 303, 305, 307] (by decide +kernel) (by decide +kernel), ?_, ?_, by decide, ?_⟩
  · show ∀ k, k < 19 → parseFieldDescriptor (tx_T0 k).2.2.1 = some (tx_y0 k)
    decide +kernel
  · show ∀ a, a < 19 → ∀ b, b < 19 → a ≠ b → (tx_T0 a).2.1 ≠ (tx_T0 b).2.1
    decide +kernel
  · intro k hk
    have hk : k < 19 := hk
    have h : (tx_ft 0 k = 0 ∧ tx_y0 k = .int) ∨ (tx_ft 0 k = 1 ∧ tx_y0 k = .boolean) ∨ (tx_ft 0 k = 2 ∧ tw_isR (some (tx_y0 k)) = true) := by
      revert k
      decide +kernel
    rcases h with h | h | h
    · exact Or.inl h
    · exact Or.inr (Or.inl h)
    · exact Or.inr (Or.inr ⟨h.1, tw_isR_of h.2⟩)
theorem tx_C1 : tw_C tx_ft tx_Ts 1 ("TwinArray$Destage", tx_T1, 7) tx_y1 := by
  refine ⟨tx_inL [187, 189, 191, 193, 195, 197, 199] (by decide +kernel) (by decide +kernel), ?_, ?_, by decide, ?_⟩
  · show ∀ k, k < 7 → parseFieldDescriptor (tx_T1 k).2.2.1 = some (tx_y1 k)
    decide +kernel
  · show ∀ a, a < 7 → ∀ b, b < 7 → a ≠ b → (tx_T1 a).2.1 ≠ (tx_T1 b).2.1
    decide +kernel
  · intro k hk
    have hk : k < 7 := hk
    have h : (tx_ft 1 k = 0 ∧ tx_y1 k = .int) ∨ (tx_ft 1 k = 1 ∧ tx_y1 k = .boolean) ∨ (tx_ft 1 k = 2 ∧ tw_isR (some (tx_y1 k)) = true) := by
      revert k
      decide +kernel
    rcases h with h | h | h
    · exact Or.inl h
    · exact Or.inr (Or.inl h)
    · exact Or.inr (Or.inr ⟨h.1, tw_isR_of h.2⟩)
theorem tx_C2 : tw_C tx_ft tx_Ts 2 ("TwinArray$DiskWrite", tx_T2, 5) tx_y2 := by
  refine ⟨tx_inL [223, 225, 227, 229, 231] (by decide +kernel) (by decide +kernel), ?_, ?_, by decide, ?_⟩
  · show ∀ k, k < 5 → parseFieldDescriptor (tx_T2 k).2.2.1 = some (tx_y2 k)
    decide +kernel
  · show ∀ a, a < 5 → ∀ b, b < 5 → a ≠ b → (tx_T2 a).2.1 ≠ (tx_T2 b).2.1
    decide +kernel
  · intro k hk
    have hk : k < 5 := hk
    have h : (tx_ft 2 k = 0 ∧ tx_y2 k = .int) ∨ (tx_ft 2 k = 1 ∧ tx_y2 k = .boolean) ∨ (tx_ft 2 k = 2 ∧ tw_isR (some (tx_y2 k)) = true) := by
      revert k
      decide +kernel
    rcases h with h | h | h
    · exact Or.inl h
    · exact Or.inr (Or.inl h)
    · exact Or.inr (Or.inr ⟨h.1, tw_isR_of h.2⟩)
theorem tx_C3 : tw_C tx_ft tx_Ts 3 ("TwinArray$Disks", tx_T3, 4) tx_y3 := by
  refine ⟨tx_inL [36, 38, 40, 42] (by decide +kernel) (by decide +kernel), ?_, ?_, by decide, ?_⟩
  · show ∀ k, k < 4 → parseFieldDescriptor (tx_T3 k).2.2.1 = some (tx_y3 k)
    decide +kernel
  · show ∀ a, a < 4 → ∀ b, b < 4 → a ≠ b → (tx_T3 a).2.1 ≠ (tx_T3 b).2.1
    decide +kernel
  · intro k hk
    have hk : k < 4 := hk
    have h : (tx_ft 3 k = 0 ∧ tx_y3 k = .int) ∨ (tx_ft 3 k = 1 ∧ tx_y3 k = .boolean) ∨ (tx_ft 3 k = 2 ∧ tw_isR (some (tx_y3 k)) = true) := by
      revert k
      decide +kernel
    rcases h with h | h | h
    · exact Or.inl h
    · exact Or.inr (Or.inl h)
    · exact Or.inr (Or.inr ⟨h.1, tw_isR_of h.2⟩)
theorem tx_C4 : tw_C tx_ft tx_Ts 4 ("TwinArray$Entries", tx_T4, 4) tx_y4 := by
  refine ⟨tx_inL [123, 125, 127, 129] (by decide +kernel) (by decide +kernel), ?_, ?_, by decide, ?_⟩
  · show ∀ k, k < 4 → parseFieldDescriptor (tx_T4 k).2.2.1 = some (tx_y4 k)
    decide +kernel
  · show ∀ a, a < 4 → ∀ b, b < 4 → a ≠ b → (tx_T4 a).2.1 ≠ (tx_T4 b).2.1
    decide +kernel
  · intro k hk
    have hk : k < 4 := hk
    have h : (tx_ft 4 k = 0 ∧ tx_y4 k = .int) ∨ (tx_ft 4 k = 1 ∧ tx_y4 k = .boolean) ∨ (tx_ft 4 k = 2 ∧ tw_isR (some (tx_y4 k)) = true) := by
      revert k
      decide +kernel
    rcases h with h | h | h
    · exact Or.inl h
    · exact Or.inr (Or.inl h)
    · exact Or.inr (Or.inr ⟨h.1, tw_isR_of h.2⟩)
theorem tx_C5 : tw_C tx_ft tx_Ts 5 ("TwinArray$Inbox", tx_T5, 7) tx_y5 := by
  refine ⟨tx_inL [151, 153, 155, 157, 159, 161, 163] (by decide +kernel) (by decide +kernel), ?_, ?_, by decide, ?_⟩
  · show ∀ k, k < 7 → parseFieldDescriptor (tx_T5 k).2.2.1 = some (tx_y5 k)
    decide +kernel
  · show ∀ a, a < 7 → ∀ b, b < 7 → a ≠ b → (tx_T5 a).2.1 ≠ (tx_T5 b).2.1
    decide +kernel
  · intro k hk
    have hk : k < 7 := hk
    have h : (tx_ft 5 k = 0 ∧ tx_y5 k = .int) ∨ (tx_ft 5 k = 1 ∧ tx_y5 k = .boolean) ∨ (tx_ft 5 k = 2 ∧ tw_isR (some (tx_y5 k)) = true) := by
      revert k
      decide +kernel
    rcases h with h | h | h
    · exact Or.inl h
    · exact Or.inr (Or.inl h)
    · exact Or.inr (Or.inr ⟨h.1, tw_isR_of h.2⟩)
theorem tx_C6 : tw_C tx_ft tx_Ts 6 ("TwinArray$LateWrites", tx_T6, 5) tx_y6 := by
  refine ⟨tx_inL [90, 92, 94, 96, 98] (by decide +kernel) (by decide +kernel), ?_, ?_, by decide, ?_⟩
  · show ∀ k, k < 5 → parseFieldDescriptor (tx_T6 k).2.2.1 = some (tx_y6 k)
    decide +kernel
  · show ∀ a, a < 5 → ∀ b, b < 5 → a ≠ b → (tx_T6 a).2.1 ≠ (tx_T6 b).2.1
    decide +kernel
  · intro k hk
    have hk : k < 5 := hk
    have h : (tx_ft 6 k = 0 ∧ tx_y6 k = .int) ∨ (tx_ft 6 k = 1 ∧ tx_y6 k = .boolean) ∨ (tx_ft 6 k = 2 ∧ tw_isR (some (tx_y6 k)) = true) := by
      revert k
      decide +kernel
    rcases h with h | h | h
    · exact Or.inl h
    · exact Or.inr (Or.inl h)
    · exact Or.inr (Or.inr ⟨h.1, tw_isR_of h.2⟩)
theorem tx_C7 : tw_C tx_ft tx_Ts 7 ("TwinArray$Tickets", tx_T7, 6) tx_y7 := by
  refine ⟨tx_inL [61, 63, 65, 67, 69, 71] (by decide +kernel) (by decide +kernel), ?_, ?_, by decide, ?_⟩
  · show ∀ k, k < 6 → parseFieldDescriptor (tx_T7 k).2.2.1 = some (tx_y7 k)
    decide +kernel
  · show ∀ a, a < 6 → ∀ b, b < 6 → a ≠ b → (tx_T7 a).2.1 ≠ (tx_T7 b).2.1
    decide +kernel
  · intro k hk
    have hk : k < 6 := hk
    have h : (tx_ft 7 k = 0 ∧ tx_y7 k = .int) ∨ (tx_ft 7 k = 1 ∧ tx_y7 k = .boolean) ∨ (tx_ft 7 k = 2 ∧ tw_isR (some (tx_y7 k)) = true) := by
      revert k
      decide +kernel
    rcases h with h | h | h
    · exact Or.inl h
    · exact Or.inr (Or.inl h)
    · exact Or.inr (Or.inr ⟨h.1, tw_isR_of h.2⟩)
theorem tx_C8 : tw_C tx_ft tx_Ts 8 ("TwinArray", tx_T8, 6) tx_y8 := by
  refine ⟨tx_inL [316, 318, 320, 322, 324, 326] (by decide +kernel) (by decide +kernel), ?_, ?_, by decide, ?_⟩
  · show ∀ k, k < 6 → parseFieldDescriptor (tx_T8 k).2.2.1 = some (tx_y8 k)
    decide +kernel
  · show ∀ a, a < 6 → ∀ b, b < 6 → a ≠ b → (tx_T8 a).2.1 ≠ (tx_T8 b).2.1
    decide +kernel
  · intro k hk
    have hk : k < 6 := hk
    have h : (tx_ft 8 k = 0 ∧ tx_y8 k = .int) ∨ (tx_ft 8 k = 1 ∧ tx_y8 k = .boolean) ∨ (tx_ft 8 k = 2 ∧ tw_isR (some (tx_y8 k)) = true) := by
      revert k
      decide +kernel
    rcases h with h | h | h
    · exact Or.inl h
    · exact Or.inr (Or.inl h)
    · exact Or.inr (Or.inr ⟨h.1, tw_isR_of h.2⟩)
theorem tx_C9 : tw_C tx_ft tx_Ts 9 ("TwinArrayModel", tx_T9, 50) tx_y9 := by
  refine ⟨tx_inL [869, 871, 873, 875, 877, 879, 881, 883, 885, 887, 889, 891, 893, 895, 897, 899, 901, 903, 905, 907, 909, 911, 913, 915, 917, 919, 921, 923, 925, 927, 929, 931, 933, 935, 937, 939, 941, 943, 945, 947, 949, 951, 953, 955, 957, 959, 961, 963, 965, 967] (by decide +kernel) (by decide +kernel), ?_, ?_, by decide, ?_⟩
  · show ∀ k, k < 50 → parseFieldDescriptor (tx_T9 k).2.2.1 = some (tx_y9 k)
    decide +kernel
  · show ∀ a, a < 50 → ∀ b, b < 50 → a ≠ b → (tx_T9 a).2.1 ≠ (tx_T9 b).2.1
    decide +kernel
  · intro k hk
    have hk : k < 50 := hk
    have h : (tx_ft 9 k = 0 ∧ tx_y9 k = .int) ∨ (tx_ft 9 k = 1 ∧ tx_y9 k = .boolean) ∨ (tx_ft 9 k = 2 ∧ tw_isR (some (tx_y9 k)) = true) := by
      revert k
      decide +kernel
    rcases h with h | h | h
    · exact Or.inl h
    · exact Or.inr (Or.inl h)
    · exact Or.inr (Or.inr ⟨h.1, tw_isR_of h.2⟩)
