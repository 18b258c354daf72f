theorem s_mreadAll {tx : Nat → Nat} {n : Nat} {f told p0 m0 k0 s0 t0 lo0 la0 ln0 ho0 si0 fi0 sz0 kn0 : Nat → Int32} {K : Int32 → Int32 → (Nat → Int32) → (Nat → Int32) → (Nat → Int32) → (Nat → Int32) → (Nat → Int32) → (Nat → Int32) → (Nat → Int32) → (Nat → Int32) → (Nat → Int32) → (Nat → Int32) → (Nat → Int32) → (Nat → Int32) → (Nat → Int32) → (Nat → Int32) → Prop}
    (hn : n ≤ 300) (ht : ∀ k, tx k < 256) (hf : mby tx n f)
    (h1 : (rdT tx n).1 = none → ∀ sp told pl mn lk sm ti lo la ln ho si fi sz kn, mdr (rdT tx n).2 pl mn lk sm ti lo la ln ho si fi sz kn → krg p0 m0 k0 s0 t0 lo0 la0 ln0 ho0 si0 fi0 sz0 kn0 pl mn lk sm ti lo la ln ho si fi sz kn → K nm4 sp pl mn lk sm ti told lo la ln ho si fi sz kn)
    (h0 : ∀ a, (rdT tx n).1 = some a → ∀ sp told pl mn lk sm ti lo la ln ho si fi sz kn, krg p0 m0 k0 s0 t0 lo0 la0 ln0 ho0 si0 fi0 sz0 kn0 pl mn lk sm ti lo la ln ho si fi sz kn → K (nI a) sp pl mn lk sm ti told lo la ln ho si fi sz kn) : pX9_readAll (nI n) p0 m0 k0 s0 t0 f told lo0 la0 ln0 ho0 si0 fi0 sz0 kn0 K := by
  unfold pX9_readAll pX9_noTown
  unfold rdT at h1 h0
  have i1 : (1 : Int32).toNatClampNeg = 1 := rfl
  have v2 : vp_in 1 2 := vp_in_nI (n := 1) (by omega) (by omega)
  have v4 : vp_in 1 4 := vp_in_nI (n := 1) (by omega) (by omega)
  rw [i1]
  refine ⟨v2, v2, v4, v2, v2, ?_⟩
  refine it15_rule (fun x pl mn lk sm ti told lo la ln ho si fi sz kn => ∃ a D fl, a ≤ n ∧ x = nI a ∧ n - a < fl ∧ rdN tx n fl a D = rdN tx n 301 0 dd0 ∧ dok D ∧ mdr D pl mn lk sm ti lo la ln ho si fi sz kn ∧ krg p0 m0 k0 s0 t0 lo0 la0 ln0 ho0 si0 fi0 sz0 kn0 pl mn lk sm ti lo la ln ho si fi sz kn) (fun x _ _ _ _ _ _ _ _ _ _ _ _ _ _ => n + 1 - x.toNatClampNeg) ?_ _ _ _ _ _ _ _ _ _ _ _ _ _ _ _ ⟨0, dd0, 301, by omega, rfl, by omega, rfl, dok_0, ⟨pk_us, pk_us, pk_us, pk_us, pk_us, fun k hk => absurd hk (by show ¬ k < 0; omega), fun k hk => absurd hk (by show ¬ k < 0; omega), fun k hk => absurd hk (by show ¬ k < 0; omega)⟩, kp_up kp_rf (by omega) (by omega), kp_up kp_rf (by omega) (by omega), kp_up kp_rf (by omega) (by omega), kp_up kp_rf (by omega) (by omega), kp_up kp_rf (by omega) (by omega), kp_rf, kp_rf, kp_rf, kp_rf, kp_rf, kp_rf, kp_rf, kp_rf⟩
  rintro rec x pl mn lk sm ti told lo la ln ho si fi sz kn ⟨a, D, fl, ha, rfl, hfl, hrd, hD, hc, hk⟩ hrec
  unfold pX9_readAll_B10
  obtain ⟨g, rfl⟩ : ∃ g, fl = g + 1 := ⟨fl - 1, by omega⟩
  rw [rdN] at hrd
  rw [nI_leI (by omega) (by omega)]
  refine br_c (fun c => ?_) (fun c => ?_)
  · rw [if_neg (by omega)] at hrd
    rw [← hrd] at h1
    exact h1 rfl _ _ _ _ _ _ _ _ _ _ _ _ _ _ _ hc hk
  · rw [if_pos (by omega)] at hrd
    refine s_item hn (by omega) ht hf hD hc hk (fun a2 E told pl mn lk sm ti lo la ln ho si fi sz kn e hE hk2 => ⟨fun _ => ?_, fun z => absurd z (by decide)⟩) (fun e sp told => ⟨fun z => absurd rfl z, fun _ => ?_⟩)
    · obtain ⟨g1, g2, g3⟩ := it_ok hD e
      rw [e] at hrd
      exact hrec _ _ _ _ _ _ _ _ _ _ _ _ _ _ _ ⟨a2, E, g, g2, rfl, by omega, hrd, g3, hE, hk2⟩ (by rw [nI_clamp (by omega), nI_clamp (by omega)]; omega)
    · rw [e] at hrd
      rw [← hrd] at h0
      exact h0 a rfl _ _ _ _ _ _ _ _ _ _ _ _ _ _ _ hk
theorem nbool_ite (b : Bool) : nbool (if b = true then 1 else 0) := by
  cases b
  · exact nbool_0
  · exact nbool_1
theorem s_there1 {D : DD} {pl mn fi lk la : Nat → Int32} {K : Int32 → Prop} {b : Bool} {x : Int32} (hD : dok D) (hx : x = if b = true then 1 else 0) (h1 : pl 1 = nI (D.1 0 0)) (h2 : mn 1 = nI (D.1 1 0)) (h3 : lk 1 = nI (D.2 0 0)) (hf : ∀ i, i < D.1 1 0 → fi (5 + i) = nI (D.2 1 i)) (hl : ∀ k, k < D.2 0 0 → la (9 + k) = nI (D.2 3 k))
    (h : K (if (b && (fo (fun i b => b && decide (D.2 1 i < D.1 0 0)) (D.1 1 0) true && fo (fun k b => b && decide (D.2 3 k < D.1 0 0)) (D.2 0 0) true)) = true then 1 else 0)) :
    ∃ n_ : Nat, it2 (pX9_areThere_B26 pl mn fi (fun x1 => (∃ n_ : Nat, it2 (pX9_areThere_B71 pl lk la (fun x2 => (nbool x2 ∧ (K x2)))) n_ x1 0))) n_ x 0 := by
  obtain ⟨d1, d2, d3, d4, d5, d6, d7, d8, d9⟩ := hD
  have i1 : (1 : Int32).toNatClampNeg = 1 := rfl
  refine it2_rule (fun x y => ∃ i, i ≤ D.1 1 0 ∧ y = nI i ∧ x = if (b && fo (fun i b => b && decide (D.2 1 i < D.1 0 0)) i true) = true then 1 else 0) (fun _ y => D.1 1 0 + 1 - y.toNatClampNeg) ?_ _ _ ⟨0, by omega, rfl, by rw [hx]; simp [fo]⟩
  rintro rec x y ⟨i, hi, rfl, rfl⟩ hrec
  unfold pX9_areThere_B26
  rw [i1, h2, h1, nI_leI (by omega) (by omega)]
  refine br_c (fun c => ?_) (fun c => ?_)
  · have e : i = D.1 1 0 := by omega
    subst e
    generalize fo (fun i b => b && decide (D.2 1 i < D.1 0 0)) (D.1 1 0) true = b2 at *
    refine it2_rule (fun x y => ∃ i, i ≤ D.2 0 0 ∧ y = nI i ∧ x = if ((b && b2) && fo (fun k b => b && decide (D.2 3 k < D.1 0 0)) i true) = true then 1 else 0) (fun _ y => D.2 0 0 + 1 - y.toNatClampNeg) ?_ _ _ ⟨0, by omega, rfl, by simp [fo]⟩
    rintro rec x y ⟨k, hk, rfl, rfl⟩ hrec
    unfold pX9_areThere_B71
    rw [i1, h3, h1, nI_leI (by omega) (by omega)]
    refine br_c (fun c2 => ?_) (fun c2 => ?_)
    · have e : k = D.2 0 0 := by omega
      subst e
      refine ⟨nbool_ite _, ?_⟩
      rw [Bool.and_assoc]; exact h
    · rw [show (9 : Int32) = nI 9 from rfl, nI_add, nI_clamp (by omega), hl k (by omega), nI_leI (by omega) (by have := d9 k (by omega); omega), nI_1]
      have hgo : ∀ v, v = (if ((b && b2) && fo (fun k b => b && decide (D.2 3 k < D.1 0 0)) (k + 1) true) = true then (1 : Int32) else 0) → rec v (nI (k + 1)) := fun v hv => hrec _ _ ⟨k + 1, by omega, rfl, hv⟩ (by rw [nI_clamp (by omega), nI_clamp (by omega)]; omega)
      have hst : fo (fun k b => b && decide (D.2 3 k < D.1 0 0)) (k + 1) true = (fo (fun k b => b && decide (D.2 3 k < D.1 0 0)) k true && decide (D.2 3 k < D.1 0 0)) := rfl
      rw [hst] at hgo
      generalize fo (fun k b => b && decide (D.2 3 k < D.1 0 0)) k true = b3 at *
      generalize (b && b2) = b4 at *
      refine ⟨fun c3 => hgo 0 ?_, fun c3 => ⟨vp_in_nI (by omega) (by omega), fun c4 => hgo 0 ?_, fun c4 => hgo 1 ?_⟩⟩
      · cases b3 <;> cases b4 <;> first | rfl | exact absurd c3 (by decide)
      · have : ¬ D.2 3 k < D.1 0 0 := by omega
        simp [this]
      · have : D.2 3 k < D.1 0 0 := by omega
        cases b3 <;> cases b4 <;> first | (simp [this]; done) | exact absurd rfl c3
  · rw [show (5 : Int32) = nI 5 from rfl, nI_add, nI_clamp (by omega), hf i (by omega), nI_leI (by omega) (by have := d8 i (by omega); omega), nI_1]
    have hgo : ∀ v, v = (if (b && fo (fun i b => b && decide (D.2 1 i < D.1 0 0)) (i + 1) true) = true then (1 : Int32) else 0) → rec v (nI (i + 1)) := fun v hv => hrec _ _ ⟨i + 1, by omega, rfl, hv⟩ (by rw [nI_clamp (by omega), nI_clamp (by omega)]; omega)
    have hst : fo (fun i b => b && decide (D.2 1 i < D.1 0 0)) (i + 1) true = (fo (fun i b => b && decide (D.2 1 i < D.1 0 0)) i true && decide (D.2 1 i < D.1 0 0)) := rfl
    rw [hst] at hgo
    generalize fo (fun i b => b && decide (D.2 1 i < D.1 0 0)) i true = b3 at *
    refine ⟨fun c3 => hgo 0 ?_, fun c3 => ⟨vp_in_nI (by omega) (by omega), fun c4 => hgo 0 ?_, fun c4 => hgo 1 ?_⟩⟩
    · cases b3 <;> cases b <;> first | rfl | exact absurd c3 (by decide)
    · have : ¬ D.2 1 i < D.1 0 0 := by omega
      simp [this]
    · have : D.2 1 i < D.1 0 0 := by omega
      cases b3 <;> cases b <;> first | (simp [this]; done) | exact absurd rfl c3
theorem s_areThere {D : DD} {pl mn fi lk la : Nat → Int32} {K : Int32 → Prop} (hD : dok D) (h1 : pl 1 = nI (D.1 0 0)) (h2 : mn 1 = nI (D.1 1 0)) (h3 : lk 1 = nI (D.2 0 0)) (hf : ∀ i, i < D.1 1 0 → fi (5 + i) = nI (D.2 1 i)) (hl : ∀ k, k < D.2 0 0 → la (9 + k) = nI (D.2 3 k)) (h : K (if cblN D = true then 1 else 0)) : pX9_areThere pl mn fi lk la K := by
  have hb := hD.1
  have hb2 := hD.2.1
  unfold cblN at h
  unfold pX9_areThere
  rw [show (1 : Int32).toNatClampNeg = 1 from rfl, h1, h2, show ((nI (D.1 0 0) ≤ 0) = (nI (D.1 0 0) ≤ nI 0)) from rfl, show ((nI (D.1 1 0) ≤ 0) = (nI (D.1 1 0) ≤ nI 0)) from rfl, nI_leI (by omega) (by omega), nI_leI (by omega) (by omega)]
  refine br_c (fun c => ?_) (fun c => br_c (fun c2 => ?_) (fun c2 => ?_))
  · refine s_there1 (b := false) hD rfl h1 h2 h3 hf hl ?_
    have : ¬ 0 < D.1 0 0 := by omega
    simp [this] at h
    simpa using h
  · refine s_there1 (b := false) hD rfl h1 h2 h3 hf hl ?_
    have : ¬ 0 < D.1 1 0 := by omega
    simp [this] at h
    simpa using h
  · refine s_there1 (b := true) hD rfl h1 h2 h3 hf hl ?_
    have g1 : 0 < D.1 0 0 := by omega
    have g2 : 0 < D.1 1 0 := by omega
    rw [decide_eq_true g1, decide_eq_true g2, Bool.true_and, Bool.true_and] at h
    rw [Bool.true_and]; exact h
/-- n places copied from a to b in one row -/
theorem s_copy {a b : Nat} {fi lk lo la ln : Nat → Int32} {K : (Nat → Int32) → (Nat → Int32) → (Nat → Int32) → (Nat → Int32) → (Nat → Int32) → Prop} (ha : a < 4) (hb : b < 4) (hab : a ≠ b)
    (h : ∀ fi2 lo2 la2 ln2 : Nat → Int32, (∀ i, i < 5 → fi2 (5 * b + i) = fi (5 * a + i)) → kp (5 * b) (5 * b + 5) fi fi2 → (∀ k, k < 9 → lo2 (9 * b + k) = lo (9 * a + k) ∧ la2 (9 * b + k) = la (9 * a + k) ∧ ln2 (9 * b + k) = ln (9 * a + k)) → kp (9 * b) (9 * b + 9) lo lo2 → kp (9 * b) (9 * b + 9) la la2 → kp (9 * b) (9 * b + 9) ln ln2 → K fi2 (upd lk b (lk a)) lo2 la2 ln2) : pX9_copy fi lk lo la ln (nI a) (nI b) K := by
  unfold pX9_copy
  refine it2_rule (fun x g => ∃ i, i ≤ 5 ∧ x = nI i ∧ (∀ j, j < i → g (5 * b + j) = fi (5 * a + j)) ∧ kp (5 * b) (5 * b + 5) fi g) (fun x _ => 6 - x.toNatClampNeg) ?_ _ _ ⟨0, by omega, rfl, fun j hj => by omega, kp_rf⟩
  rintro rec x g ⟨i, hi, rfl, hg, hkp⟩ hrec
  unfold pX9_copy_B2
  rw [show (5 : Int32) = nI 5 from rfl, pk_mul, pk_mul, nI_add, nI_add, nI_leI (by omega) (by omega)]
  refine br_c (fun c => ?_) (fun c => ⟨vp_in_nI (by omega) (by omega), vp_in_nI (by omega) (by omega), ?_⟩)
  · have e : i = 5 := by omega
    subst e
    refine ⟨vp_in_nI (by omega) (by omega), vp_in_nI (by omega) (by omega), ?_⟩
    rw [nI_clamp (by omega), nI_clamp (by omega)]
    refine it4_rule (fun x g1 g2 g3 => ∃ i, i ≤ 9 ∧ x = nI i ∧ (∀ j, j < i → g1 (9 * b + j) = lo (9 * a + j) ∧ g2 (9 * b + j) = la (9 * a + j) ∧ g3 (9 * b + j) = ln (9 * a + j)) ∧ kp (9 * b) (9 * b + 9) lo g1 ∧ kp (9 * b) (9 * b + 9) la g2 ∧ kp (9 * b) (9 * b + 9) ln g3) (fun x _ _ _ => 10 - x.toNatClampNeg) ?_ _ _ _ _ ⟨0, by omega, rfl, fun j hj => by omega, kp_rf, kp_rf, kp_rf⟩
    rintro rec2 x g1 g2 g3 ⟨k, hk, rfl, hg2, k1, k2, k3⟩ hrec2
    unfold pX9_copy_B47
    rw [show (9 : Int32) = nI 9 from rfl, pk_mul, pk_mul, nI_add, nI_add, nI_leI (by omega) (by omega)]
    refine br_c (fun c2 => ?_) (fun c2 => ⟨vp_in_nI (by omega) (by omega), vp_in_nI (by omega) (by omega), vp_in_nI (by omega) (by omega), vp_in_nI (by omega) (by omega), vp_in_nI (by omega) (by omega), vp_in_nI (by omega) (by omega), ?_⟩)
    · have e : k = 9 := by omega
      subst e
      exact h g g1 g2 g3 hg hkp hg2 k1 k2 k3
    · rw [nI_1, nI_clamp (by omega), nI_clamp (by omega)]
      refine hrec2 _ _ _ _ ⟨k + 1, by omega, rfl, fun j hj => ?_, kp_up k1 (by omega) (by omega), kp_up k2 (by omega) (by omega), kp_up k3 (by omega) (by omega)⟩ (by rw [nI_clamp (by omega), nI_clamp (by omega)]; omega)
      by_cases e : j = k
      · subst e
        rw [pk_us, pk_us, pk_us, k1 _ (by omega), k2 _ (by omega), k3 _ (by omega)]
        exact ⟨rfl, rfl, rfl⟩
      · rw [pk_un (by omega), pk_un (by omega), pk_un (by omega)]; exact hg2 j (by omega)
  · rw [nI_1, nI_clamp (by omega), nI_clamp (by omega)]
    refine hrec _ _ ⟨i + 1, by omega, rfl, fun j hj => ?_, kp_up hkp (by omega) (by omega)⟩ (by rw [nI_clamp (by omega), nI_clamp (by omega)]; omega)
    by_cases e : j = i
    · subst e
      rw [pk_us, hkp _ (by omega)]
    · rw [pk_un (by omega)]; exact hg j (by omega)
