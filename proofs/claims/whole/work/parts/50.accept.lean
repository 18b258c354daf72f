theorem s_accept {D : DD} {b x y z : Nat} {pl sk sm ti lk x2 x3 x4 : Int32} {lo lp ld ho vi st gi ki : Nat → Int32} {K : Int32 → Int32 → Int32 → Int32 → Int32 → Int32 → (Nat → Int32) → (Nat → Int32) → (Nat → Int32) → (Nat → Int32) → (Nat → Int32) → (Nat → Int32) → (Nat → Int32) → (Nat → Int32) → Prop}
    (hb : b < 256) (hD : dok D) (hr : cdr D pl sk sm ti lk lo lp ld ho vi st gi ki) (hx : 1 ≤ wdN b → x2 = nI x) (hy : 2 ≤ wdN b → x3 = nI y) (hz : 3 ≤ wdN b → x4 = nI z) (hxb : x < 100) (hyb : y < 100) (hzb : z < 100)
    (h1 : ∀ E pl sk sm ti lk lo lp ld ho vi st gi ki, accN D b x y z = some E → cdr E pl sk sm ti lk lo lp ld ho vi st gi ki → K 1 pl sk sm ti lk lo lp ld ho vi st gi ki)
    (h0 : accN D b x y z = none → ∀ pl sk sm ti lk lo lp ld ho vi st gi ki, K 0 pl sk sm ti lk lo lp ld ho vi st gi ki) : pX7_accept pl sk sm ti lk lo lp ld ho vi st gi ki (nI b) x2 x3 x4 K := by
  obtain ⟨d1, d2, d3, d4, d5, d6, d7, d8, d9⟩ := hD
  obtain ⟨rfl, rfl, rfl, rfl, rfl, rh, rs, rl⟩ := hr
  have kb : ∀ c : Nat, c < 256 → (nI b = nI c ↔ b = c) := fun c hc => nI_eq (by omega) (by omega)
  unfold pX7_accept
  refine ⟨fun c => ?_, fun c => ?_, fun c => ?_, fun c => ?_, fun c => ?_, fun c1 c2 c3 c4 c5 => ?_⟩
  · have e := (kb 108 (by omega)).mp c
    subst e
    have hx := hx (by decide); have hy := hy (by decide); have hz := hz (by decide)
    subst hx; subst hy; subst hz
    unfold accN at h1 h0
    rw [if_pos rfl] at h0
    have h0' : ¬ (x < D.1 1 0 ∧ y < 9 ∧ 1 ≤ z ∧ z ≤ 60 ∧ D.2 0 0 < 9) → ∀ pl sk sm ti lk lo lp ld ho vi st gi ki, K 0 pl sk sm ti lk lo lp ld ho vi st gi ki := fun q => h0 (if_neg q)
    refine s_hasSkin (by omega) (fun hs => ⟨fun q => absurd q (by decide), fun _ => ?_⟩) (fun hs => ⟨fun _ => h0' (fun q => hs ⟨x, q.1, rfl⟩) _ _ _ _ _ _ _ _ _ _ _ _ _, fun q => absurd rfl q⟩)
    obtain ⟨x', hx', e⟩ := hs
    have e := (nI_eq (by omega) (by omega)).mp e
    subst e
    rw [show (9 : Int32) = nI 9 from rfl, nI_leI (by omega) (by omega)]
    refine br_c (fun c2 => h0' (fun q => by omega) _ _ _ _ _ _ _ _ _ _ _ _ _) (fun c2 => ?_)
    refine s_isDay (fun hd => ⟨fun q => absurd q (by decide), fun _ => ?_⟩) (fun hd => ⟨fun _ => h0' (fun q => hd ⟨z, q.2.2.1, q.2.2.2.1, rfl⟩) _ _ _ _ _ _ _ _ _ _ _ _ _, fun q => absurd rfl q⟩)
    obtain ⟨z', z1, z2, e⟩ := hd
    have e := (nI_eq (by omega) (by omega)).mp e
    subst e
    unfold pX2_addLook
    rw [show (9 : Int32) = nI 9 from rfl, nI_ltI (by omega) (by omega), nI_clamp (by omega), nI_1]
    refine br_c (fun c3 => ⟨vp_in_nI (by omega) (by omega), vp_in_nI (by omega) (by omega), vp_in_nI (by omega) (by omega), fun q => absurd q (by decide), fun _ => ?_⟩) (fun c3 => ⟨fun _ => h0' (fun q => by omega) _ _ _ _ _ _ _ _ _ _ _ _ _, fun q => absurd rfl q⟩)
    refine h1 _ _ _ _ _ _ _ _ _ _ _ _ _ _ (by rw [if_pos rfl, if_pos ⟨hx', by omega, z1, z2, c3⟩]) ?_
    refine ⟨rfl, rfl, rfl, rfl, ?_, rh, fun i hi => ?_, fun k hk => ?_⟩
    · dsimp only; rw [up2_s]
    · dsimp only; rw [up2_n (by omega), up2_n (by omega), up2_n (by omega), up2_n (by omega)]; exact rs i hi
    · dsimp only at hk ⊢
      rw [up2_s] at hk
      refine ⟨?_, ?_, ?_⟩
      · rw [up2_n (by omega), up2_n (by omega), up2_n (by omega)]; exact row_s (fun q => (rl k q).1) hk
      · rw [up2_n (by omega), up2_n (by omega)]; exact row_s (fun q => by rw [up2_n (by omega)]; exact (rl k q).2.1) hk
      · rw [up2_n (by omega)]; exact row_s (fun q => by rw [up2_n (by omega), up2_n (by omega)]; exact (rl k q).2.2) hk
  · have e := (kb 112 (by omega)).mp c
    subst e
    have hx := hx (by decide); have hy := hy (by decide)
    subst hx; subst hy
    unfold accN at h1 h0
    rw [if_neg (by decide), if_pos rfl] at h0
    have h0' : ¬ (D.1 0 0 < 9 ∧ x ≤ 5 ∧ 1 ≤ y ∧ y ≤ 10) → ∀ pl sk sm ti lk lo lp ld ho vi st gi ki, K 0 pl sk sm ti lk lo lp ld ho vi st gi ki := fun q => h0 (if_neg q)
    unfold pX7_addPlace
    rw [show (9 : Int32) = nI 9 from rfl, show (5 : Int32) = nI 5 from rfl, show (1 : Int32) = nI 1 from rfl, show (10 : Int32) = nI 10 from rfl, nI_leI (by omega) (by omega), nI_ltI (by omega) (by omega), nI_ltI (by omega) (by omega), nI_leI (by omega) (by omega), nI_clamp (by omega), nI_add]
    refine br_c (fun c1 => ⟨nbool_0, h0' (fun q => by omega) _ _ _ _ _ _ _ _ _ _ _ _ _⟩) (fun c1 => br_c (fun c2 => ⟨nbool_0, h0' (fun q => by omega) _ _ _ _ _ _ _ _ _ _ _ _ _⟩) (fun c2 => br_c (fun c3 => ⟨nbool_0, h0' (fun q => by omega) _ _ _ _ _ _ _ _ _ _ _ _ _⟩) (fun c3 => br_c (fun c4 => ⟨vp_in_nI (by omega) (by omega), vp_in_nI (by omega) (by omega), nbool_1, ?_⟩) (fun c4 => ⟨nbool_0, h0' (fun q => by omega) _ _ _ _ _ _ _ _ _ _ _ _ _⟩))))
    refine h1 _ _ _ _ _ _ _ _ _ _ _ _ _ _ (by rw [if_neg (by decide), if_pos rfl, if_pos ⟨by omega, by omega, by omega, c4⟩]) ?_
    refine ⟨?_, ?_, ?_, ?_, rfl, fun k hk => ?_, fun i hi => ?_, rl⟩
    · dsimp only; rw [up2_s]
    · dsimp only; rw [up2_n (by omega), up2_n (by omega), up2_n (by omega)]
    · dsimp only; rw [up2_n (by omega), up2_n (by omega), up2_n (by omega)]
    · dsimp only; rw [up2_n (by omega), up2_n (by omega), up2_n (by omega)]
    · dsimp only at hk ⊢
      rw [up2_s] at hk
      refine ⟨?_, ?_⟩
      · rw [up2_n (by omega), up2_n (by omega)]; exact row_s (fun q => (rh k q).1) hk
      · rw [up2_n (by omega)]; exact row_s (fun q => by rw [up2_n (by omega)]; exact (rh k q).2) hk
    · dsimp only at hi ⊢
      rw [up2_n (by omega), up2_n (by omega), up2_n (by omega)] at hi
      rw [up2_n (by omega), up2_n (by omega), up2_n (by omega), up2_n (by omega), up2_n (by omega), up2_n (by omega)]
      exact rs i hi
  · have e := (kb 115 (by omega)).mp c
    subst e
    have hx := hx (by decide); have hy := hy (by decide); have hz := hz (by decide)
    subst hx; subst hy; subst hz
    unfold accN at h1 h0
    rw [if_neg (by decide), if_neg (by decide), if_pos rfl] at h0
    have h0' : ¬ (D.1 1 0 < 5 ∧ x < 9 ∧ 1 ≤ y ∧ y ≤ 20 ∧ z < 4) → ∀ pl sk sm ti lk lo lp ld ho vi st gi ki, K 0 pl sk sm ti lk lo lp ld ho vi st gi ki := fun q => h0 (if_neg q)
    unfold pX7_addSkin
    rw [show (5 : Int32) = nI 5 from rfl, show (9 : Int32) = nI 9 from rfl, show (1 : Int32) = nI 1 from rfl, show (20 : Int32) = nI 20 from rfl, show (4 : Int32) = nI 4 from rfl, nI_leI (by omega) (by omega), nI_leI (by omega) (by omega), nI_ltI (by omega) (by omega), nI_ltI (by omega) (by omega), nI_ltI (by omega) (by omega), nI_clamp (by omega), nI_add]
    refine br_c (fun c1 => ⟨nbool_0, h0' (fun q => by omega) _ _ _ _ _ _ _ _ _ _ _ _ _⟩) (fun c1 => br_c (fun c2 => ⟨nbool_0, h0' (fun q => by omega) _ _ _ _ _ _ _ _ _ _ _ _ _⟩) (fun c2 => br_c (fun c3 => ⟨nbool_0, h0' (fun q => by omega) _ _ _ _ _ _ _ _ _ _ _ _ _⟩) (fun c3 => br_c (fun c4 => ⟨nbool_0, h0' (fun q => by omega) _ _ _ _ _ _ _ _ _ _ _ _ _⟩) (fun c4 => br_c (fun c5 => ⟨vp_in_nI (by omega) (by omega), vp_in_nI (by omega) (by omega), vp_in_nI (by omega) (by omega), nbool_1, ?_⟩) (fun c5 => ⟨nbool_0, h0' (fun q => by omega) _ _ _ _ _ _ _ _ _ _ _ _ _⟩)))))
    refine h1 _ _ _ _ _ _ _ _ _ _ _ _ _ _ (by rw [if_neg (by decide), if_neg (by decide), if_pos rfl, if_pos ⟨by omega, by omega, by omega, by omega, c5⟩]) ?_
    refine ⟨?_, ?_, ?_, ?_, ?_, fun k hk => ?_, fun i hi => ?_, fun k hk => ?_⟩
    · dsimp only; rw [up2_n (by omega), up2_n (by omega), up2_n (by omega)]
    · dsimp only; rw [up2_s]
    · dsimp only; rw [up2_n (by omega), up2_n (by omega), up2_n (by omega)]
    · dsimp only; rw [up2_n (by omega), up2_n (by omega), up2_n (by omega)]
    · dsimp only; rw [up2_n (by omega)]
    · dsimp only at hk ⊢
      rw [up2_n (by omega), up2_n (by omega), up2_n (by omega)] at hk
      rw [up2_n (by omega), up2_n (by omega), up2_n (by omega), up2_n (by omega), up2_n (by omega), up2_n (by omega)]
      exact rh k hk
    · dsimp only at hi ⊢
      rw [up2_s] at hi
      refine ⟨row_s (fun q => (rs i q).1) hi, ?_, ?_⟩
      · rw [up2_n (by omega), up2_n (by omega)]; exact row_s (fun q => (rs i q).2.1) hi
      · rw [up2_n (by omega)]; exact row_s (fun q => by rw [up2_n (by omega)]; exact (rs i q).2.2) hi
    · dsimp only at hk ⊢
      rw [up2_n (by omega)] at hk
      rw [up2_n (by omega), up2_n (by omega), up2_n (by omega)]
      exact rl k hk
  · have e := (kb 116 (by omega)).mp c
    subst e
    have hx := hx (by decide)
    subst hx
    unfold accN at h1 h0
    rw [if_neg (by decide), if_neg (by decide), if_neg (by decide), if_pos rfl] at h0
    have h0' : ¬ (1 ≤ x ∧ x ≤ 20) → ∀ pl sk sm ti lk lo lp ld ho vi st gi ki, K 0 pl sk sm ti lk lo lp ld ho vi st gi ki := fun q => h0 (if_neg q)
    unfold pX7_setTide
    rw [show (1 : Int32) = nI 1 from rfl, show (20 : Int32) = nI 20 from rfl, nI_ltI (by omega) (by omega), nI_leI (by omega) (by omega)]
    refine br_c (fun c1 => ⟨nbool_0, h0' (fun q => by omega) _ _ _ _ _ _ _ _ _ _ _ _ _⟩) (fun c1 => br_c (fun c2 => ⟨nbool_1, ?_⟩) (fun c2 => ⟨nbool_0, h0' (fun q => by omega) _ _ _ _ _ _ _ _ _ _ _ _ _⟩))
    refine h1 _ _ _ _ _ _ _ _ _ _ _ _ _ _ (by rw [if_neg (by decide), if_neg (by decide), if_neg (by decide), if_pos rfl, if_pos ⟨by omega, c2⟩]) ?_
    refine ⟨?_, ?_, ?_, ?_, rfl, fun k hk => ?_, fun i hi => ?_, rl⟩
    · dsimp only; rw [up2_n (by omega)]
    · dsimp only; rw [up2_n (by omega)]
    · dsimp only; rw [up2_n (by omega)]
    · dsimp only; rw [up2_s]
    · dsimp only at hk ⊢
      rw [up2_n (by omega)] at hk
      rw [up2_n (by omega), up2_n (by omega)]
      exact rh k hk
    · dsimp only at hi ⊢
      rw [up2_n (by omega)] at hi
      rw [up2_n (by omega), up2_n (by omega)]
      exact rs i hi
  · have e := (kb 119 (by omega)).mp c
    subst e
    have hx := hx (by decide)
    subst hx
    unfold accN at h1 h0
    rw [if_neg (by decide), if_neg (by decide), if_neg (by decide), if_neg (by decide), if_pos rfl] at h0
    have h0' : ¬ (x ≤ 60) → ∀ pl sk sm ti lk lo lp ld ho vi st gi ki, K 0 pl sk sm ti lk lo lp ld ho vi st gi ki := fun q => h0 (if_neg q)
    unfold pX7_setSmoke
    rw [show (60 : Int32) = nI 60 from rfl, nI_leI (by omega) (by omega)]
    refine br_c (fun c1 => ⟨nbool_1, ?_⟩) (fun c1 => ⟨nbool_0, h0' (fun q => by omega) _ _ _ _ _ _ _ _ _ _ _ _ _⟩)
    refine h1 _ _ _ _ _ _ _ _ _ _ _ _ _ _ (by rw [if_neg (by decide), if_neg (by decide), if_neg (by decide), if_neg (by decide), if_pos rfl, if_pos c1]) ?_
    refine ⟨?_, ?_, ?_, ?_, rfl, fun k hk => ?_, fun i hi => ?_, rl⟩
    · dsimp only; rw [up2_n (by omega)]
    · dsimp only; rw [up2_n (by omega)]
    · dsimp only; rw [up2_s]
    · dsimp only; rw [up2_n (by omega)]
    · dsimp only at hk ⊢
      rw [up2_n (by omega)] at hk
      rw [up2_n (by omega), up2_n (by omega)]
      exact rh k hk
    · dsimp only at hi ⊢
      rw [up2_n (by omega)] at hi
      rw [up2_n (by omega), up2_n (by omega)]
      exact rs i hi
  · refine h0 ?_ _ _ _ _ _ _ _ _ _ _ _ _ _
    have n1 : b ≠ 108 := fun e => c1 (by rw [e]; rfl)
    have n2 : b ≠ 112 := fun e => c2 (by rw [e]; rfl)
    have n3 : b ≠ 115 := fun e => c3 (by rw [e]; rfl)
    have n4 : b ≠ 116 := fun e => c4 (by rw [e]; rfl)
    have n5 : b ≠ 119 := fun e => c5 (by rw [e]; rfl)
    unfold accN
    rw [if_neg n1, if_neg n2, if_neg n3, if_neg n4, if_neg n5]
