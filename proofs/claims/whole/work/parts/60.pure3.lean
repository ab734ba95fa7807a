/-! Pure words for the reference (object cell 61; there 62, keys 63, blocks 64, missing 65, up 66, key 67, paired 68, owns 69, has 70, cached 71, version 72, dirty 73, mirrored 74, mirror 75, mirrorVersion 76, note 77, remark 78, repair 79, wayDisk 80, wayStripe 81, wayValue 82, wayKey 83, taking 84, takeNext 85, takeCount 86, stripeOf 87, stage 88, took 89, tookValue 90, tookVersion 91, parity 92, parityKnown 93, flushing 94, missed 95, given 96, message 97, messages 98; fields isCut 38, tickets 39, lates 45; tickets 99 to 103, lates 104 to 107). -/
theorem nI_lt_iff {x : Int32} {h : Nat} (hh : h < 2 ^ 30) : nI h < x ↔ nI (h + 1) ≤ x := by
  rw [Int32.lt_iff_toInt_lt, Int32.le_iff_toInt_le, nI_toInt (by omega), nI_toInt (by omega)]
  omega
def k_tick (f : tw_S) (c b v : Int32) : tw_S := tw_up (tw_up (tw_up (tw_up (tw_up (tw_up f 99 (f 61 39).toNatClampNeg 2) 100 (f 61 39).toNatClampNeg v) 101 (f 61 39).toNatClampNeg c) 102 (f 61 39).toNatClampNeg b) 103 (f 61 39).toNatClampNeg 0) 61 39 (f 61 39 + 1)
def k_keep0 (f : tw_S) (c b : Nat) (v : Int32) : tw_S := tw_up (tw_up (tw_up (tw_up f 70 (32 * c + b) 1) 71 (32 * c + b) v) 73 (32 * c + b) 0) 72 (32 * c + b) 0
def k_keep1 (f : tw_S) (c b : Nat) (v : Int32) : tw_S := tw_up (tw_up (tw_up (tw_up (tw_up (tw_up f 70 (32 * c + b) 1) 71 (32 * c + b) v) 73 (32 * c + b) 1) 72 (32 * c + b) 0) 96 c (f 96 c + 1)) 72 (32 * c + b) (f 96 c + 1)
def k_at (f : tw_S) (c : Nat) : Nat := 200 * (1 - c) + 5 * (f 98 (1 - c)).toNatClampNeg
def k_send (f : tw_S) (c : Nat) (s a b v t : Int32) : tw_S := if f 61 38 = 0 ∧ ¬ f 98 (1 - c) = 40 then tw_up (tw_up (tw_up (tw_up (tw_up (tw_up f 97 (k_at f c) s) 97 (k_at f c + 1) a) 97 (k_at f c + 2) b) 97 (k_at f c + 3) v) 97 (k_at f c + 4) t) 98 (1 - c) (f 98 (1 - c) + 1) else f
def k_put (f : tw_S) (i s : Nat) (v : Int32) : tw_S := tw_up (tw_up f 64 (i * 8 + s) v) 65 (i * 8 + s) 0
def k_begins (f : tw_S) (c : Nat) (a b v : Int32) : tw_S := tw_up (tw_up (tw_up (tw_up f 80 c a) 81 c b) 82 c v) 83 c (f 67 c)
def p_bits (g : Nat → Int32) : Nat → Int32
  | 0 => 0
  | n + 1 => if g n = 0 then p_bits g n else p_bits g n ||| 1 <<< (nI n &&& 31)
/-- the dirty places of a stripe, in the reference -/
def k_cd (f : tw_S) (c : Nat) : Nat → Nat := p_cd (fun j => f 73 (32 * c + j))
def k_quiet (f : tw_S) (c : Nat) : Prop := ¬ f 66 c = 0 ∧ f 84 c = 0 ∧ ¬ 0 ≤ f 87 c ∧ p_cd (fun j => f 73 (32 * c + j)) 8 = 0 ∧ ¬ p_ft (fun s => f 77 (8 * c + s)) 8 0 < 8 ∧ ¬ 0 ≤ f 80 c
theorem nI_ge0 {n : Nat} (h : n < 2 ^ 31) : 0 ≤ nI n := nI_pos' h
