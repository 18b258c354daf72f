theorem lit_60 : (60 : Int32) = nI 60 := rfl
theorem s_afterFro {P a : Nat} {x : Int32} {K : Int32 → Prop} (hP : P < 2 ^ 31) (ha : a < P) (h : K (nI (if P < 2 then a else if x ≠ 0 then a - 1 else a + 1))) (hx : x ≠ 0 → P < 2 ∨ 0 < a) : pX7_afterFro (nI P) (nI a) x K := by
  unfold pX7_afterFro
  rw [show (2 : Int32) = nI 2 from rfl, nI_leI (by omega) hP]
  refine br_c (fun c => ?_) (fun c => ?_)
  · rw [if_neg (by omega)] at h
    refine ⟨fun c2 => ?_, fun c2 => ?_⟩
    · rw [if_neg (by rw [c2]; exact fun q => q rfl)] at h
      rw [nI_1]; exact h
    · rw [if_pos c2] at h
      have h0 : 0 < a := by rcases hx c2 with q | q <;> omega
      obtain ⟨b, rfl⟩ : ∃ b, a = b + 1 := ⟨a - 1, by omega⟩
      rw [nI_pred]
      exact h
  · rw [if_pos (by omega)] at h; exact h
theorem s_walk {P : Nat} {H : Nat → Nat} {f p0 : Nat → Int32} {a kd np : Nat} {K : (Nat → Int32) → Prop} (hP : P ≤ 9) (ha : a < P) (hf : ∀ k, k < P → f k = nI (H k) ∧ H k < 100) (hk : kd < 100) (hnp : np < 2 ^ 31)
    (h : ∀ g : Nat → Int32, (∀ d, 1 ≤ d → d ≤ 60 → d < np → g d = nI (pos P H kd a d)) → K g) : pX7_walk p0 (nI P) f np (nI a) (nI kd) K := by
  unfold pX7_walk
  refine it4_rule (fun x4 x5 x6 g => ∃ d, 1 ≤ d ∧ d ≤ 61 ∧ x6 = nI d ∧ x4 = nI (wlk P H kd a (d-1)).1 ∧ (kd = 2 → x5 = if (wlk P H kd a (d-1)).2 = true then 1 else 0) ∧ ∀ k, 1 ≤ k → k < d → k < np → g k = nI (pos P H kd a k)) (fun _ _ x6 _ => 62 - x6.toNatClampNeg) ?_ _ _ _ _ ⟨1, by omega, by omega, rfl, rfl, fun _ => rfl, fun k h1 h2 => by omega⟩
  rintro rec x4 x5 x6 g ⟨d, h1, h61, rfl, rfl, h5, hg⟩ hrec
  unfold pX7_walk_B9
  have hlt := wlk_lt (H := H) (kd := kd) ha (d-1)
  have hnext : wlk P H kd a d = stp P H kd (wlk P H kd a (d-1)) := by
    obtain ⟨e, rfl⟩ : ∃ e, d = e + 1 := ⟨d - 1, by omega⟩
    rfl
  have hpos : pos P H kd a d = (wlk P H kd a (d-1)).1 := rfl
  generalize hs : wlk P H kd a (d-1) = sd at *
  obtain ⟨q, dn⟩ := sd
  dsimp only at hlt hpos h5
  rw [lit_60, nI_ltI (by omega) (by omega), nI_leI hnp (by omega)]
  refine br_c (fun c => h g (fun k h1 h2 h3 => hg k h1 (by omega) h3)) (fun c => br_c (fun c2 => h g (fun k h1 h2 h3 => hg k h1 (by omega) h3)) (fun c2 => ⟨vp_in_nI (by omega) hnp, ?_⟩))
  have hgo : ∀ x5', (kd = 2 → x5' = if (stp P H kd (q, dn)).2 = true then 1 else 0) → rec (nI (stp P H kd (q, dn)).1) x5' (nI d + 1) (upd g (nI d).toNatClampNeg (nI q)) := by
    intro x5' hx5
    rw [nI_1, nI_clamp (by omega)]
    refine hrec _ _ _ _ ⟨d + 1, by omega, by omega, rfl, ?_, ?_, ?_⟩ (by rw [nI_clamp (by omega), nI_clamp (by omega)]; omega)
    · rw [Nat.add_sub_cancel, hnext]
    · rw [Nat.add_sub_cancel, hnext]; exact hx5
    · intro k k1 k2 k3
      by_cases e : k = d
      · rw [e, pk_us, hpos]
      · rw [pk_un e]; exact hg k k1 (by omega) k3
  rw [show (2 : Int32) = nI 2 from rfl, nI_eq (by omega) (by omega)]
  refine ⟨fun c3 => ?_, fun c3 => ?_⟩
  · refine s_afterNight (b := dn) hP hlt hf hk c3 (hgo _ (fun e => absurd e c3))
  · subst c3
    have e1 : (stp P H 2 (q, dn)).1 = if P < 2 then q else if (decide (0 < q) && (dn || decide (P ≤ q + 1))) = true then q - 1 else q + 1 := rfl
    have e2 : (stp P H 2 (q, dn)).2 = (decide (0 < q) && (dn || decide (P ≤ q + 1))) := rfl
    have fin : ∀ x : Int32, (x = if (decide (0 < q) && (dn || decide (P ≤ q + 1))) = true then 1 else 0) → pX7_afterFro (nI P) (nI q) x (fun r => rec r x (nI d + 1) (upd g (nI d).toNatClampNeg (nI q))) := by
      intro x hx
      refine s_afterFro (by omega) hlt ?_ ?_
      · have e3 : (if P < 2 then q else if x ≠ 0 then q - 1 else q + 1) = (stp P H 2 (q, dn)).1 := by
          rw [e1, hx]
          by_cases hb : (decide (0 < q) && (dn || decide (P ≤ q + 1))) = true
          · simp [hb]
          · simp [hb]
        rw [e3]
        exact hgo x (fun _ => by rw [e2]; exact hx)
      · intro hx0
        right
        by_cases hb : (decide (0 < q) && (dn || decide (P ≤ q + 1))) = true
        · simp only [Bool.and_eq_true, decide_eq_true_eq] at hb; exact hb.1
        · rw [if_neg hb] at hx; exact absurd hx hx0
    rw [show (0 : Int32) = nI 0 from rfl, nI_leI (by omega) (by omega)]
    refine br_c (fun c4 => ?_) (fun c4 => ⟨fun c5 => ?_, fun c5 => ?_⟩)
    · refine fin (nI 0) ?_
      have : ¬ 0 < q := by omega
      simp [this]; rfl
    · have hd : dn = true := by
        have := h5 rfl
        cases dn
        · exact absurd this c5
        · rfl
      refine fin 1 ?_
      have : 0 < q := by omega
      simp [this, hd]
    · have hd : dn = false := by
        have := h5 rfl
        cases dn
        · rfl
        · rw [if_pos rfl] at this; rw [this] at c5; exact absurd c5 (by decide)
      have h0 : 0 < q := by omega
      rw [show nI P - 1 = nI (P - 1) from by obtain ⟨b, hb⟩ : ∃ b, P = b + 1 := ⟨P - 1, by omega⟩; rw [hb, nI_pred]; rfl, nI_ltI (by omega) (by omega)]
      refine br_c (fun c6 => ?_) (fun c6 => ?_)
      · refine fin (nI 0) ?_
        have : ¬ P ≤ q + 1 := by omega
        simp [h0, hd, this]; rfl
      · refine fin 1 ?_
        have : P ≤ q + 1 := by omega
        simp [h0, hd, this]
