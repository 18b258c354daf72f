/-! ===== the pure side: numbers ===== -/
def nm4 : Int32 := -4
theorem nm4_lit : (-(nI 4) : Int32) = nm4 := by decide
theorem nm4_neg : nm4 < 0 := by decide
theorem nI_nneg {n : Nat} (h : n < 2 ^ 31) : ¬ nI n < 0 := nI_pos h
theorem nI_ne4 {n : Nat} (h : n < 2 ^ 31) : ¬ nI n = nm4 := fun e => nI_pos h (by rw [e]; exact nm4_neg)
theorem vp_nI {n N : Nat} (h : n < 2 ^ 31) (hN : N < 2 ^ 31) : vp_in (nI n) N ↔ n < N := by
  rw [vp_in_iff, nI_toInt h]; omega
theorem cl_nI {n : Nat} (h : n < 2 ^ 31) : (nI n).toNatClampNeg = n := nI_clamp h
/-- n times, with the number of the time -/
def fo {σ : Type} (f : Nat → σ → σ) : Nat → σ → σ
  | 0, s => s
  | n + 1, s => f n (fo f n s)
theorem fo_s {σ : Type} (f : Nat → σ → σ) (n : Nat) (s : σ) : fo f (n + 1) s = f n (fo f n s) := rfl
def nxt (P a : Nat) : Nat := if a + 1 < P then a + 1 else 0
/-- the first place below n that is in house h, else n -/
def fsth (H : Nat → Nat) (h : Nat) (n : Nat) : Nat := fa_first (fun q => decide (H q = h)) n
theorem fsth_le (H : Nat → Nat) (h n : Nat) : fsth H h n ≤ n := fa_first_le _ n
def stp (P : Nat) (H : Nat → Nat) (kd : Nat) (s : Nat × Bool) : Nat × Bool :=
  if kd = 1 then (nxt P s.1, s.2)
  else if kd = 2 then
    (if P < 2 then s.1 else if (decide (0 < s.1) && (s.2 || decide (P ≤ s.1 + 1))) = true then s.1 - 1 else s.1 + 1, decide (0 < s.1) && (s.2 || decide (P ≤ s.1 + 1)))
  else if kd = 3 then (if fsth H (H s.1) s.1 < s.1 then fsth H (H s.1) s.1 else nxt P s.1, s.2)
  else s
def wlk (P : Nat) (H : Nat → Nat) (kd a : Nat) (d : Nat) : Nat × Bool := fo (fun _ s => stp P H kd s) d (a, false)
/-- where on day d -/
def pos (P : Nat) (H : Nat → Nat) (kd a d : Nat) : Nat := (wlk P H kd a (d - 1)).1
theorem nxt_lt {P a : Nat} (h : a < P) : nxt P a < P := by unfold nxt; split <;> omega
theorem stp_lt {P : Nat} {H : Nat → Nat} {kd : Nat} {s : Nat × Bool} (h : s.1 < P) : (stp P H kd s).1 < P := by
  unfold stp
  split
  · exact nxt_lt h
  split
  · dsimp only
    split
    · exact h
    split
    · omega
    · rename_i h2 h3
      by_cases h4 : s.1 + 1 < P
      · exact h4
      · exfalso
        apply h3
        have h5 : 0 < s.1 := by omega
        have h6 : P ≤ s.1 + 1 := by omega
        simp [h5, h6]
  split
  · dsimp only
    split
    · omega
    · exact nxt_lt h
  · exact h
theorem wlk_lt {P : Nat} {H : Nat → Nat} {kd a : Nat} (h : a < P) : ∀ d, (wlk P H kd a d).1 < P
  | 0 => h
  | d + 1 => stp_lt (wlk_lt h d)
theorem pos_lt {P : Nat} {H : Nat → Nat} {kd a d : Nat} (h : a < P) : pos P H kd a d < P := wlk_lt h _
/-! ===== Town's small methods ===== -/
theorem s_hasPlace {P : Nat} {x : Int32} {K : Int32 → Prop} (hP : P < 2 ^ 31) (h1 : (∃ a, a < P ∧ x = nI a) → K 1) (h0 : (¬ ∃ a, a < P ∧ x = nI a) → K 0) : pX7_hasPlace (nI P) x K := by
  unfold pX7_hasPlace
  refine br_c (fun c => h0 ?_) (fun c => br_c (fun c2 => h0 ?_) (fun c2 => h1 ?_))
  · rintro ⟨a, ha, rfl⟩; exact nI_pos (by omega) c
  · rintro ⟨a, ha, rfl⟩; exact absurd ((nI_leI hP (by omega)).mp c2) (by omega)
  · rcases pk_ix x hP with h | h | h
    · exact absurd h c
    · exact absurd h c2
    · exact h
theorem s_hasSkin {P : Nat} {x : Int32} {K : Int32 → Prop} (hP : P < 2 ^ 31) (h1 : (∃ a, a < P ∧ x = nI a) → K 1) (h0 : (¬ ∃ a, a < P ∧ x = nI a) → K 0) : pX7_hasSkin (nI P) x K := s_hasPlace hP h1 h0
theorem s_afterNext {P a : Nat} {K : Int32 → Prop} (hP : P < 2 ^ 31) (ha : a < P) (h : K (nI (nxt P a))) : pX7_afterNext (nI P) (nI a) K := by
  unfold pX7_afterNext
  unfold nxt at h
  rw [nI_1, nI_leI hP (by omega)]
  refine br_c (fun c => ?_) (fun c => ?_)
  · rw [if_neg (by omega)] at h; exact h
  · rw [if_pos (by omega)] at h; exact h
theorem s_lowestBeside {H : Nat → Nat} {f : Nat → Int32} {a : Nat} {K : Int32 → Prop} (ha : a < 9) (hf : ∀ k, k ≤ a → f k = nI (H k) ∧ H k < 100) (h : K (nI (fsth H (H a) a))) : pX7_lowestBeside f (nI a) K := by
  unfold pX7_lowestBeside
  refine it1_rule (fun x => ∃ i, i ≤ a ∧ x = nI i ∧ fsth H (H a) i = i) (fun x => a + 1 - x.toNatClampNeg) ?_ _ ⟨0, by omega, rfl, rfl⟩
  rintro rec x ⟨i, hi, rfl, hq⟩ hrec
  unfold pX7_lowestBeside_B2
  rw [nI_leI (by omega) (by omega)]
  refine br_c (fun c => ?_) (fun c => ?_)
  · have e : i = a := by omega
    subst e
    rw [hq] at h
    exact h
  · refine ⟨vp_in_nI (by omega) (by omega), vp_in_nI (by omega) (by omega), ?_⟩
    rw [nI_clamp (by omega), nI_clamp (by omega), (hf i (by omega)).1, (hf a (by omega)).1, nI_eq (by have := (hf i (by omega)).2; omega) (by have := (hf a (by omega)).2; omega)]
    refine ⟨fun c2 => ?_, fun c2 => ?_⟩
    · rw [nI_1]
      refine hrec _ ⟨i + 1, by omega, rfl, ?_⟩ (by rw [nI_clamp (by omega), nI_clamp (by omega)]; omega)
      unfold fsth at hq ⊢
      rw [fa_first, hq]
      simp [c2]
    · have e : fsth H (H a) a = i := by
        unfold fsth at hq ⊢
        have h1 : ∀ n, i < n → fa_first (fun q => decide (H q = H a)) n = i := by
          intro n
          induction n with
          | zero => intro hn; omega
          | succ n ih =>
            intro hn
            rw [fa_first]
            by_cases hin : i < n
            · rw [ih hin, if_pos hin]
            · have : n = i := by omega
              subst this
              rw [hq]
              simp [c2]
        exact h1 a (by omega)
      rw [e] at h
      exact h
theorem s_afterNight {P : Nat} {H : Nat → Nat} {f : Nat → Int32} {a kd : Nat} {b : Bool} {K : Int32 → Prop} (hP : P ≤ 9) (ha : a < P) (hf : ∀ k, k < P → f k = nI (H k) ∧ H k < 100) (hk : kd < 100) (h2 : kd ≠ 2) (h : K (nI (stp P H kd (a, b)).1)) : pX7_afterNight (nI P) f (nI a) (nI kd) K := by
  unfold pX7_afterNight
  unfold stp at h
  refine ⟨fun c => ?_, fun c => ?_, fun c1 c3 => ?_⟩
  · have : kd = 1 := (nI_eq (b := 1) (by omega) (by omega)).mp c
    subst this
    exact s_afterNext (by omega) ha h
  · have : kd = 3 := (nI_eq (b := 3) (by omega) (by omega)).mp c
    subst this
    simp only [show ¬ (3 : Nat) = 1 from by omega, show ¬ (3 : Nat) = 2 from by omega, if_false, if_true] at h
    refine s_lowestBeside (H := H) (by omega) (fun k hk2 => hf k (by omega)) ?_
    have hle := fsth_le H (H a) a
    rw [nI_leI (by omega) (by omega)]
    refine br_c (fun c => ?_) (fun c => ?_)
    · rw [if_neg (by omega)] at h
      exact s_afterNext (by omega) ha h
    · rw [if_pos (by omega)] at h
      exact s_lowestBeside (H := H) (by omega) (fun k hk2 => hf k (by omega)) h
  · have h1 : kd ≠ 1 := fun e => c1 (by rw [e]; rfl)
    have h3 : kd ≠ 3 := fun e => c3 (by rw [e]; rfl)
    rw [if_neg h1, if_neg h2, if_neg h3] at h
    exact h
