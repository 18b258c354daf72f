/-! ===== THE TEXT ===== -/
def sb (b : Nat) : Int32 := (nI b).toInt8.toInt32
theorem sb_ge : ∀ b, b < 256 → ∀ lo, lo < 128 → (nI lo ≤ sb b ↔ lo ≤ b ∧ b < 128) := by decide +kernel
theorem sb_le : ∀ b, b < 256 → ∀ hi, hi < 128 → (sb b ≤ nI hi ↔ b ≤ hi ∨ 128 ≤ b) := by decide +kernel
theorem sb_ch : ∀ b, b < 256 → ((sb b &&& 255).toUInt32 % 65536).toInt32 = nI b := by decide +kernel
theorem sb_lo : ∀ b, b < 128 → sb b = nI b := by decide +kernel
def dgt (tx : Nat → Nat) (n k : Nat) : Prop := k < n ∧ 48 ≤ tx k ∧ tx k ≤ 57
def dgb (tx : Nat → Nat) (n k : Nat) : Bool := decide (k < n) && (decide (48 ≤ tx k) && decide (tx k ≤ 57))
def isb (tx : Nat → Nat) (n k e : Nat) : Bool := decide (k < n) && decide (tx k = e)
/-- a number and the sign behind it: its value and what is behind -/
def nbS (tx : Nat → Nat) (n a e : Nat) : Option (Nat × Nat) :=
  if dgb tx n a = true then
    if dgb tx n (a + 1) = true then
      if isb tx n (a + 2) e = true then some ((tx a - 48) * 10 + (tx (a + 1) - 48), a + 3) else none
    else if isb tx n (a + 1) e = true then some (tx a - 48, a + 2) else none
  else none
def cby (tx : Nat → Nat) (n : Nat) (f : Nat → Int32) : Prop := ∀ k, k < n → f k = sb (tx k)
theorem s_holds {tx : Nat → Nat} {n a lo hi : Nat} {f : Nat → Int32} {K : Int32 → Prop} (hn : n ≤ 300) (ha : a ≤ 400) (ht : ∀ k, tx k < 256) (hf : cby tx n f) (hlo : lo < 128) (hhi : hi < 128) (h1 : a < n → lo ≤ tx a → tx a ≤ hi → K 1) (h0 : ¬ (a < n ∧ lo ≤ tx a ∧ tx a ≤ hi) → K 0) : pX3_holds (nI n) f (nI a) (nI lo) (nI hi) K := by
  unfold pX3_holds
  rw [nI_leI (by omega) (by omega)]
  refine br_c (fun c => h0 (fun q => by omega)) (fun c => ⟨vp_in_nI (by omega) (by omega), ?_⟩)
  rw [nI_clamp (by omega), hf a (by omega)]
  have g := sb_ge (tx a) (ht a) lo hlo
  have l := sb_le (tx a) (ht a) hi hhi
  refine ⟨fun c2 => h0 (fun q => ?_), fun c2 => ⟨vp_in_nI (by omega) (by omega), fun c3 => h0 (fun q => ?_), fun c3 => ?_⟩⟩
  · rw [Int32.lt_iff_toInt_lt] at c2
    have := g.mpr ⟨q.2.1, by omega⟩
    rw [Int32.le_iff_toInt_le] at this
    omega
  · rw [Int32.lt_iff_toInt_lt] at c3
    have := l.mpr (Or.inl q.2.2)
    rw [Int32.le_iff_toInt_le] at this
    omega
  · have c4 : nI lo ≤ sb (tx a) := by rw [Int32.lt_iff_toInt_lt] at c2; rw [Int32.le_iff_toInt_le]; omega
    have c5 : sb (tx a) ≤ nI hi := by rw [Int32.lt_iff_toInt_lt] at c3; rw [Int32.le_iff_toInt_le]; omega
    have := g.mp c4
    have := l.mp c5
    exact h1 (by omega) (by omega) (by omega)
