theorem s_isDay {x : Int32} {K : Int32 → Prop} (h1 : (∃ d, 1 ≤ d ∧ d ≤ 60 ∧ x = nI d) → K 1) (h0 : (¬ ∃ d, 1 ≤ d ∧ d ≤ 60 ∧ x = nI d) → K 0) : pX8_isDay x K := by
  unfold pX8_isDay
  refine br_c (fun c => h0 ?_) (fun c => br_c (fun c2 => h0 ?_) (fun c2 => h1 ?_))
  · rintro ⟨d, d1, d2, rfl⟩; exact absurd ((nI_ltI (a := d) (b := 1) (by omega) (by omega)).mp c) (by omega)
  · rintro ⟨d, d1, d2, rfl⟩; exact absurd ((nI_ltI (a := 60) (b := d) (by omega) (by omega)).mp c2) (by omega)
  · rw [Int32.lt_iff_toInt_lt] at c c2
    have e1 : (1 : Int32).toInt = 1 := by decide
    have e2 : (60 : Int32).toInt = 60 := by decide
    refine ⟨x.toInt.toNat, by omega, by omega, ?_⟩
    apply Int32.toInt_inj.mp
    rw [nI_toInt (by omega)]
    omega
theorem nb_lt {tx : Nat → Nat} {n a e v a2 : Nat} (h : nbS tx n a e = some (v, a2)) : a < a2 ∧ a2 ≤ n ∧ v < 100 := by
  unfold nbS dgb isb at h
  split at h
  · rename_i h1
    simp only [Bool.and_eq_true, decide_eq_true_eq] at h1
    split at h
    · rename_i h2
      simp only [Bool.and_eq_true, decide_eq_true_eq] at h2
      split at h
      · rename_i h3
        simp only [Bool.and_eq_true, decide_eq_true_eq] at h3
        cases h; omega
      · cases h
    · split at h
      · rename_i h3
        simp only [Bool.and_eq_true, decide_eq_true_eq] at h3
        cases h; omega
      · cases h
  · cases h
theorem s_readNumber {tx : Nat → Nat} {n a k e : Nat} {f num : Nat → Int32} {K : Int32 → (Nat → Int32) → Prop} (hn : n ≤ 300) (ha : a ≤ 300) (ht : ∀ k, tx k < 256) (hf : cby tx n f) (hk : k < 3)
    (h0 : nbS tx n a e = none → K nm4 num) (h1 : ∀ v a2, nbS tx n a e = some (v, a2) → K (nI a2) (upd num k (nI v))) (he2 : e < 128) : pX3_readNumber (nI n) f num (nI a) (nI k) (nI e) K := by
  unfold pX3_readNumber
  have dg : ∀ b, dgb tx n b = true ↔ b < n ∧ 48 ≤ tx b ∧ tx b ≤ 57 := by intro b; unfold dgb; simp only [Bool.and_eq_true, decide_eq_true_eq]
  have ib : ∀ b, isb tx n b e = true ↔ b < n ∧ tx b = e := by intro b; unfold isb; simp only [Bool.and_eq_true, decide_eq_true_eq]
  have val : ∀ q, 48 ≤ tx q → tx q ≤ 57 → ∀ v, v < 1000 → nI v * 10 + sb (tx q) - 48 = nI (v * 10 + (tx q - 48)) := by
    intro q q1 q2 v hv
    rw [sb_lo (tx q) (by omega), show (10 : Int32) = nI 10 from rfl, pk_mul, nI_add, show (48 : Int32) = nI 48 from rfl, pk_sub (by omega)]
    congr 1; omega
  refine it2_rule (fun x y => ∃ v j, j ≤ 2 ∧ x = nI v ∧ y = nI (a + j) ∧ (j = 0 → v = 0) ∧ (1 ≤ j → dgb tx n a = true) ∧ (j = 1 → v = tx a - 48) ∧ (j = 2 → dgb tx n (a + 1) = true ∧ v = (tx a - 48) * 10 + (tx (a + 1) - 48))) (fun _ y => a + 3 - y.toNatClampNeg) ?_ _ _ ⟨0, 0, by omega, rfl, rfl, fun _ => rfl, fun q => by omega, fun q => by omega, fun q => by omega⟩
  rintro rec x y ⟨v, j, hj, rfl, rfl, v0, v1, v2, v3⟩ hrec
  have hfin : ∀ w, (j = 0 → w = none) → (1 ≤ j → w = if isb tx n (a + j) e = true then some (v, a + j + 1) else none) → w = nbS tx n a e → (nI (a + j) = nI a → K nm4 num) ∧ (¬ nI (a + j) = nI a → pX3_holds (nI n) f (nI (a + j)) (nI e) (nI e) fun r => (¬ r = 0 → vp_in (nI k) 3 ∧ K (nI (a + j) + 1) (upd num (nI k).toNatClampNeg (nI v))) ∧ (r = 0 → K nm4 num)) := by
    intro w w0 w1 w2
    rw [nI_eq (by omega) (by omega)]
    refine ⟨fun c => ?_, fun c => ?_⟩
    · rw [w0 (by omega)] at w2; exact h0 w2.symm
    · rw [w1 (by omega)] at w2
      refine s_holds hn (by omega) ht hf he2 he2 (fun q1 q2 q3 => ?_) (fun q => ⟨fun z => absurd rfl z, fun _ => ?_⟩)
      · rw [if_pos ((ib _).mpr ⟨q1, by omega⟩)] at w2
        refine ⟨fun _ => ⟨vp_in_nI hk (by omega), ?_⟩, fun z => absurd z (by decide)⟩
        rw [nI_1, nI_clamp (by omega)]
        exact h1 v _ w2.symm
      · rw [if_neg (fun z => q (by have := (ib _).mp z; omega))] at w2
        exact h0 w2.symm
  unfold pX3_readNumber_B6
  rw [show (2 : Int32) = nI 2 from rfl, nI_add, nI_leI (by omega) (by omega)]
  refine br_c (fun c => ?_) (fun c => ?_)
  · have e2 : j = 2 := by omega
    subst e2
    refine hfin _ (fun q => by omega) (fun _ => rfl) ?_
    unfold nbS
    obtain ⟨d2, hv⟩ := v3 rfl
    rw [if_pos (v1 (by omega)), if_pos d2, ← hv]
  · refine s_holds (lo := 48) (hi := 57) hn (by omega) ht hf (by omega) (by omega) (fun q1 q2 q3 => ⟨fun z => absurd z (by decide), fun _ => ⟨vp_in_nI (by omega) (by omega), ?_⟩⟩) (fun q => ⟨fun _ => ?_, fun z => absurd rfl z⟩)
    · have hd : dgb tx n (a + j) = true := (dg _).mpr ⟨q1, q2, q3⟩
      rw [nI_clamp (by omega), hf _ q1, nI_1]
      have hv : v < 1000 := by
        rcases (show j = 0 ∨ j = 1 by omega) with e1 | e1
        · have := v0 e1; omega
        · have := v2 e1
          have := (dg a).mp (v1 (by omega))
          omega
      rw [val _ q2 q3 v hv]
      refine hrec _ _ ⟨_, j + 1, by omega, rfl, rfl, fun q => by omega, fun q => ?_, fun q => ?_, fun q => ?_⟩ (by rw [nI_clamp (by omega), nI_clamp (by omega)]; omega)
      · by_cases e1 : j = 0
        · rw [e1] at hd; exact hd
        · exact v1 (by omega)
      · have e1 : j = 0 := by omega
        subst e1
        rw [v0 rfl]
        simp
      · have e1 : j = 1 := by omega
        subst e1
        exact ⟨hd, by rw [v2 rfl]⟩
    · have hd : ¬ dgb tx n (a + j) = true := fun z => q ((dg _).mp z)
      refine hfin (if 1 ≤ j then (if isb tx n (a + j) e = true then some (v, a + j + 1) else none) else none) (fun q => by rw [if_neg (by omega)]) (fun q => by rw [if_pos q]) ?_
      unfold nbS
      rcases (show j = 0 ∨ j = 1 by omega) with e1 | e1
      · subst e1; rw [Nat.add_zero] at hd; rw [if_neg (show ¬ 1 ≤ 0 by omega), if_neg hd]
      · subst e1; rw [if_pos (v1 (by omega)), if_neg hd, if_pos (by omega), v2 rfl]
def fgF (tx : Nat → Nat) (n w k : Nat) (s : Option (Nat × (Nat → Nat))) : Option (Nat × (Nat → Nat)) := s.bind fun p => (nbS tx n p.1 (if k + 1 < w then 44 else 59)).bind fun q => some (q.2, upN p.2 k q.1)
def fgN (tx : Nat → Nat) (n w a : Nat) : Option (Nat × (Nat → Nat)) := fo (fgF tx n w) w (some (a, fun _ => 0))
abbrev DD : Type := (Nat → Nat → Nat) × (Nat → Nat → Nat)
def up2 (D : Nat → Nat → Nat) (f k v : Nat) : Nat → Nat → Nat := fun g j => if g = f ∧ j = k then v else D g j
theorem up2_s {D : Nat → Nat → Nat} {f k v : Nat} : up2 D f k v f k = v := if_pos ⟨rfl, rfl⟩
theorem up2_n {D : Nat → Nat → Nat} {f k v g j : Nat} (h : g ≠ f ∨ j ≠ k) : up2 D f k v g j = D g j := if_neg (fun q => h.elim (fun z => z q.1) (fun z => z q.2))
def wdN (b : Nat) : Nat := if b = 108 then 3 else if b = 112 then 2 else if b = 115 then 3 else if b = 116 then 1 else if b = 119 then 1 else 0
/-- an item's numbers into the town that is being read -/
def accN (D : DD) (b x y z : Nat) : Option DD :=
  if b = 108 then (if x < D.1 1 0 ∧ y < 9 ∧ 1 ≤ z ∧ z ≤ 60 ∧ D.2 0 0 < 9 then some (D.1, up2 (up2 (up2 (up2 D.2 2 (D.2 0 0) x) 3 (D.2 0 0) y) 4 (D.2 0 0) z) 0 0 (D.2 0 0 + 1)) else none)
  else if b = 112 then (if D.1 0 0 < 9 ∧ x ≤ 5 ∧ 1 ≤ y ∧ y ≤ 10 then some (up2 (up2 (up2 D.1 4 (D.1 0 0) x) 5 (D.1 0 0) y) 0 0 (D.1 0 0 + 1), D.2) else none)
  else if b = 115 then (if D.1 1 0 < 5 ∧ x < 9 ∧ 1 ≤ y ∧ y ≤ 20 ∧ z < 4 then some (up2 (up2 (up2 D.1 6 (D.1 1 0) y) 7 (D.1 1 0) z) 1 0 (D.1 1 0 + 1), up2 D.2 1 (D.1 1 0) x) else none)
  else if b = 116 then (if 1 ≤ x ∧ x ≤ 20 then some (up2 D.1 3 0 x, D.2) else none)
  else if b = 119 then (if x ≤ 60 then some (up2 D.1 2 0 x, D.2) else none)
  else none
def itN (tx : Nat → Nat) (n a : Nat) (D : DD) : Option (Nat × DD) := if wdN (tx a) = 0 then none else (fgN tx n (wdN (tx a)) (a + 1)).bind fun p => (accN D (tx a) (p.2 0) (p.2 1) (p.2 2)).bind fun E => some (p.1, E)
def dok (D : DD) : Prop := D.1 0 0 ≤ 9 ∧ D.1 1 0 ≤ 5 ∧ D.2 0 0 ≤ 9 ∧ D.1 2 0 ≤ 60 ∧ 1 ≤ D.1 3 0 ∧ D.1 3 0 ≤ 20 ∧ (∀ k, k < D.1 0 0 → D.1 4 k ≤ 5 ∧ 1 ≤ D.1 5 k ∧ D.1 5 k ≤ 10) ∧ (∀ i, i < D.1 1 0 → D.2 1 i < 9 ∧ 1 ≤ D.1 6 i ∧ D.1 6 i ≤ 20 ∧ D.1 7 i ≤ 3) ∧ ∀ k, k < D.2 0 0 → D.2 2 k < D.1 1 0 ∧ D.2 3 k < 9 ∧ 1 ≤ D.2 4 k ∧ D.2 4 k ≤ 60
def cdr (D : DD) (pl sk sm ti lk : Int32) (lo lp ld ho vi st gi ki : Nat → Int32) : Prop := pl = nI (D.1 0 0) ∧ sk = nI (D.1 1 0) ∧ sm = nI (D.1 2 0) ∧ ti = nI (D.1 3 0) ∧ lk = nI (D.2 0 0) ∧ (∀ k, k < D.1 0 0 → ho k = nI (D.1 4 k) ∧ vi k = nI (D.1 5 k)) ∧ (∀ i, i < D.1 1 0 → st i = nI (D.2 1 i) ∧ gi i = nI (D.1 6 i) ∧ ki i = nI (D.1 7 i)) ∧ ∀ k, k < D.2 0 0 → lo k = nI (D.2 2 k) ∧ lp k = nI (D.2 3 k) ∧ ld k = nI (D.2 4 k)
/-- a row's first n with one more -/
theorem row_s {f : Nat → Int32} {n v : Nat} {D : Nat → Nat → Nat} {c k : Nat} (hf : k < n → f k = nI (D c k)) (hk : k < n + 1) : upd f n (nI v) k = nI (up2 D c n v c k) := by
  by_cases e : k = n
  · rw [e, pk_us, up2_s]
  · rw [pk_un e, up2_n (Or.inr e)]; exact hf (by omega)
