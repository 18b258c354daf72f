/-- outside lo .. hi - 1 nothing has changed -/
def kp (lo hi : Nat) (f g : Nat → Int32) : Prop := ∀ j, (j < lo ∨ hi ≤ j) → g j = f j
theorem kp_rf {lo hi : Nat} {f : Nat → Int32} : kp lo hi f f := fun _ _ => rfl
theorem kp_up {lo hi k : Nat} {f g : Nat → Int32} {v : Int32} (h : kp lo hi f g) (h1 : lo ≤ k) (h2 : k < hi) : kp lo hi f (upd g k v) := fun j hj => by rw [pk_un (by omega)]; exact h j hj
theorem row_o {f : Nat → Int32} {n v o : Nat} {D : Nat → Nat → Nat} {c k : Nat} (hf : k < n → f (o + k) = nI (D c k)) (hk : k < n + 1) : upd f (o + n) (nI v) (o + k) = nI (up2 D c n v c k) := by
  by_cases e : k = n
  · rw [e, pk_us, up2_s]
  · rw [pk_un (by omega), up2_n (Or.inr e)]; exact hf (by omega)
/-- places, many, looks, smoke, tide, lookOf, lookAt, lookOn, houses, sights, firsts, sizes, kinds: the town that is being read -/
def mdr (D : DD) (pl mn lk sm ti lo la ln ho si fi sz kn : Nat → Int32) : Prop := pl 1 = nI (D.1 0 0) ∧ mn 1 = nI (D.1 1 0) ∧ sm 1 = nI (D.1 2 0) ∧ ti 1 = nI (D.1 3 0) ∧ lk 1 = nI (D.2 0 0) ∧ (∀ k, k < D.1 0 0 → ho (9 + k) = nI (D.1 4 k) ∧ si (9 + k) = nI (D.1 5 k)) ∧ (∀ i, i < D.1 1 0 → fi (5 + i) = nI (D.2 1 i) ∧ sz (5 + i) = nI (D.1 6 i) ∧ kn (5 + i) = nI (D.1 7 i)) ∧ ∀ k, k < D.2 0 0 → lo (9 + k) = nI (D.2 2 k) ∧ la (9 + k) = nI (D.2 3 k) ∧ ln (9 + k) = nI (D.2 4 k)
def krg (pl mn lk sm ti lo la ln ho si fi sz kn pl2 mn2 lk2 sm2 ti2 lo2 la2 ln2 ho2 si2 fi2 sz2 kn2 : Nat → Int32) : Prop := kp 1 2 pl pl2 ∧ kp 1 2 mn mn2 ∧ kp 1 2 lk lk2 ∧ kp 1 2 sm sm2 ∧ kp 1 2 ti ti2 ∧ kp 9 18 lo lo2 ∧ kp 9 18 la la2 ∧ kp 9 18 ln ln2 ∧ kp 9 18 ho ho2 ∧ kp 9 18 si si2 ∧ kp 5 10 fi fi2 ∧ kp 5 10 sz sz2 ∧ kp 5 10 kn kn2
theorem krg_rf {pl mn lk sm ti lo la ln ho si fi sz kn : Nat → Int32} : krg pl mn lk sm ti lo la ln ho si fi sz kn pl mn lk sm ti lo la ln ho si fi sz kn := ⟨kp_rf, kp_rf, kp_rf, kp_rf, kp_rf, kp_rf, kp_rf, kp_rf, kp_rf, kp_rf, kp_rf, kp_rf, kp_rf⟩
theorem s_item {tx : Nat → Nat} {n a : Nat} {D : DD} {f told pl mn lk sm ti lo la ln ho si fi sz kn p0 m0 k0 s0 t0 lo0 la0 ln0 ho0 si0 fi0 sz0 kn0 : Nat → Int32} {K : Int32 → Int32 → (Nat → Int32) → (Nat → Int32) → (Nat → Int32) → (Nat → Int32) → (Nat → Int32) → (Nat → Int32) → (Nat → Int32) → (Nat → Int32) → (Nat → Int32) → (Nat → Int32) → (Nat → Int32) → (Nat → Int32) → (Nat → Int32) → (Nat → Int32) → Prop}
    (hn : n ≤ 300) (ha : a < n) (ht : ∀ k, tx k < 256) (hf : mby tx n f) (hD : dok D) (hr : mdr D pl mn lk sm ti lo la ln ho si fi sz kn) (hk : krg p0 m0 k0 s0 t0 lo0 la0 ln0 ho0 si0 fi0 sz0 kn0 pl mn lk sm ti lo la ln ho si fi sz kn)
    (h1 : ∀ a2 E told pl mn lk sm ti lo la ln ho si fi sz kn, itN tx n a D = some (a2, E) → mdr E pl mn lk sm ti lo la ln ho si fi sz kn → krg p0 m0 k0 s0 t0 lo0 la0 ln0 ho0 si0 fi0 sz0 kn0 pl mn lk sm ti lo la ln ho si fi sz kn → K 1 (nI a2) told lk mn lo la ln pl ho si fi sz kn ti sm)
    (h0 : itN tx n a D = none → ∀ sp told, K 0 sp told lk mn lo la ln pl ho si fi sz kn ti sm) : pX9_item (nI n) (nI a) f told lk mn lo la ln pl ho si fi sz kn ti sm K := by
  obtain ⟨d1, d2, d3, d4, d5, d6, d7, d8, d9⟩ := id hD
  obtain ⟨r1, r2, r3, r4, r5, rh, rs, rl⟩ := hr
  obtain ⟨q1, q2, q3, q4, q5, q6, q7, q8, q9, q10, q11, q12, q13⟩ := hk
  have hb : tx a < 256 := ht a
  have hbt : btN tx n a = tx a := if_pos ha
  have kb : ∀ c : Nat, c < 256 → (nI (tx a) = nI c ↔ tx a = c) := fun c hc => nI_eq (by omega) (by omega)
  have i0 : (0 : Int32).toNatClampNeg = 0 := rfl
  have i1 : (1 : Int32).toNatClampNeg = 1 := rfl
  have i2 : (2 : Int32).toNatClampNeg = 2 := rfl
  unfold pX9_item
  refine s_byteAt hn (by omega) hf ?_
  rw [hbt, nI_1]
  have hit : ∀ w, wdN (tx a) = w → w ≠ 0 → itN tx n a D = (fgN tx n w (a + 1)).bind fun p => (accN D (tx a) (p.2 0) (p.2 1) (p.2 2)).bind fun E => some (p.1, E) := by
    intro w hw hw0
    unfold itN
    rw [hw, if_neg hw0]
  refine ⟨fun c => ?_, fun c => ?_, fun c => ?_, fun c => ?_, fun c => ?_, fun c1 c2 c3 c4 c5 => ?_⟩
  · have e := (kb 108 (by omega)).mp c
    have hit := hit 3 (by rw [e]; rfl) (by omega)
    rw [hit] at h0
    simp only [hit] at h1
    refine s_figures (w := 3) hn (by omega) ht hf (by omega) (fun z sp told => ⟨fun _ => h0 (by rw [z]; rfl) _ _, fun z => absurd rfl z⟩) (fun a2 V told z hV => ⟨fun z => absurd z (by decide), fun _ => ?_⟩)
    obtain ⟨-, -, i3⟩ := fg_ok _ a2 V z
    have b0 := i3 0; have b1 := i3 1; have b2 := i3 2
    rw [z] at h0
    simp only [z] at h1
    have hac : accN D (tx a) (V 0) (V 1) (V 2) = if V 0 < D.1 1 0 ∧ V 1 < 9 ∧ 1 ≤ V 2 ∧ V 2 ≤ 60 ∧ D.2 0 0 < 9 then some (D.1, up2 (up2 (up2 (up2 D.2 2 (D.2 0 0) (V 0)) 3 (D.2 0 0) (V 1)) 4 (D.2 0 0) (V 2)) 0 0 (D.2 0 0 + 1)) else none := by unfold accN; rw [if_pos e]
    have hno : ¬ (V 0 < D.1 1 0 ∧ V 1 < 9 ∧ 1 ≤ V 2 ∧ V 2 ≤ 60 ∧ D.2 0 0 < 9) → ∀ sp told, K 0 sp told lk mn lo la ln pl ho si fi sz kn ti sm := fun z => h0 (by show (accN D (tx a) (V 0) (V 1) (V 2)).bind _ = _; rw [hac, if_neg z]; rfl)
    rw [i0, i1, i2, hV 0 (by omega), hV 1 (by omega), hV 2 (by omega), r5, r2, show (9 : Int32) = nI 9 from rfl, show (8 : Int32) = nI 8 from rfl, nI_eq (by omega) (by omega), nI_leI (by omega) (by omega), nI_ltI (by omega) (by omega)]
    refine ⟨fun c1 => hno (by omega) _ _, fun c1 => ⟨fun c2 => hno (by omega) _ _, fun c2 => ⟨fun c3 => hno (by omega) _ _, fun c3 => ?_⟩⟩⟩
    refine s_inN (lo := 1) (hi := 60) (by omega) (by decide) (by decide) (fun c4 c5 => ⟨fun _ => ?_, fun z => absurd z (by decide)⟩) (fun c => ⟨fun z => absurd rfl z, fun _ => hno (by omega) _ _⟩)
    unfold pX9_addLook
    rw [i1, r5, show (1 : Int32) = nI 1 from rfl, show (9 : Int32) = nI 9 from rfl, pk_mul, nI_add, nI_clamp (by omega), nI_add]
    refine ⟨vp_in_nI (by omega) (by omega), vp_in_nI (by omega) (by omega), vp_in_nI (by omega) (by omega), vp_in_nI (by omega) (by omega), vp_in_nI (by omega) (by omega), vp_in_nI (by omega) (by omega), vp_in_nI (by omega) (by omega), vp_in_nI (by omega) (by omega), ?_⟩
    refine h1 a2 _ _ _ _ _ _ _ _ _ _ _ _ _ _ _ (by show (accN D (tx a) (V 0) (V 1) (V 2)).bind _ = _; rw [hac, if_pos ⟨by omega, by omega, c4, c5, by omega⟩]; rfl) ?_ ⟨q1, q2, kp_up q3 (by omega) (by omega), q4, q5, kp_up q6 (by omega) (by omega), kp_up q7 (by omega) (by omega), kp_up q8 (by omega) (by omega), q9, q10, q11, q12, q13⟩
    refine ⟨r1, r2, r3, r4, ?_, rh, fun i hi => ?_, fun k hk => ?_⟩
    · dsimp only; rw [up2_s, pk_us]
    · dsimp only; rw [up2_n (by omega), up2_n (by omega), up2_n (by omega), up2_n (by omega)]; exact rs i hi
    · dsimp only at hk ⊢
      rw [up2_s] at hk
      refine ⟨?_, ?_, ?_⟩
      · rw [up2_n (by omega), up2_n (by omega), up2_n (by omega)]; exact row_o (fun q => (rl k q).1) hk
      · rw [up2_n (by omega), up2_n (by omega)]; exact row_o (fun q => by rw [up2_n (by omega)]; exact (rl k q).2.1) hk
      · rw [up2_n (by omega)]; exact row_o (fun q => by rw [up2_n (by omega), up2_n (by omega)]; exact (rl k q).2.2) hk
  · have e := (kb 112 (by omega)).mp c
    have hit := hit 2 (by rw [e]; rfl) (by omega)
    rw [hit] at h0
    simp only [hit] at h1
    refine s_figures (w := 2) hn (by omega) ht hf (by omega) (fun z sp told => ⟨fun _ => h0 (by rw [z]; rfl) _ _, fun z => absurd rfl z⟩) (fun a2 V told z hV => ⟨fun z => absurd z (by decide), fun _ => ?_⟩)
    obtain ⟨-, -, i3⟩ := fg_ok _ a2 V z
    have b0 := i3 0; have b1 := i3 1
    rw [z] at h0
    simp only [z] at h1
    have hac : accN D (tx a) (V 0) (V 1) (V 2) = if D.1 0 0 < 9 ∧ V 0 ≤ 5 ∧ 1 ≤ V 1 ∧ V 1 ≤ 10 then some (up2 (up2 (up2 D.1 4 (D.1 0 0) (V 0)) 5 (D.1 0 0) (V 1)) 0 0 (D.1 0 0 + 1), D.2) else none := by unfold accN; rw [if_neg (by omega), if_pos e]
    have hno : ¬ (D.1 0 0 < 9 ∧ V 0 ≤ 5 ∧ 1 ≤ V 1 ∧ V 1 ≤ 10) → ∀ sp told, K 0 sp told lk mn lo la ln pl ho si fi sz kn ti sm := fun z => h0 (by show (accN D (tx a) (V 0) (V 1) (V 2)).bind _ = _; rw [hac, if_neg z]; rfl)
    rw [i0, i1, hV 0 (by omega), hV 1 (by omega), r1, show (9 : Int32) = nI 9 from rfl, show (5 : Int32) = nI 5 from rfl, nI_eq (by omega) (by omega), nI_ltI (by omega) (by omega)]
    refine ⟨fun c1 => hno (by omega) _ _, fun c1 => ⟨fun c2 => hno (by omega) _ _, fun c2 => ?_⟩⟩
    refine s_inN (lo := 1) (hi := 10) (by omega) (by decide) (by decide) (fun c4 c5 => ⟨fun _ => ?_, fun z => absurd z (by decide)⟩) (fun c => ⟨fun z => absurd rfl z, fun _ => hno (by omega) _ _⟩)
    rw [nI_add, nI_1, nI_clamp (by omega)]
    refine ⟨vp_in_nI (by omega) (by omega), vp_in_nI (by omega) (by omega), ?_⟩
    refine h1 a2 _ _ _ _ _ _ _ _ _ _ _ _ _ _ _ (by show (accN D (tx a) (V 0) (V 1) (V 2)).bind _ = _; rw [hac, if_pos ⟨by omega, by omega, c4, c5⟩]; rfl) ?_ ⟨kp_up q1 (by omega) (by omega), q2, q3, q4, q5, q6, q7, q8, kp_up q9 (by omega) (by omega), kp_up q10 (by omega) (by omega), q11, q12, q13⟩
    refine ⟨?_, ?_, ?_, ?_, r5, fun k hk => ?_, fun i hi => ?_, rl⟩
    · dsimp only; rw [up2_s, pk_us]
    · dsimp only; rw [up2_n (by omega), up2_n (by omega), up2_n (by omega)]; exact r2
    · dsimp only; rw [up2_n (by omega), up2_n (by omega), up2_n (by omega)]; exact r3
    · dsimp only; rw [up2_n (by omega), up2_n (by omega), up2_n (by omega)]; exact r4
    · dsimp only at hk ⊢
      rw [up2_s] at hk
      refine ⟨?_, ?_⟩
      · rw [up2_n (by omega), up2_n (by omega)]; exact row_o (fun q => (rh k q).1) hk
      · rw [up2_n (by omega)]; exact row_o (fun q => by rw [up2_n (by omega)]; exact (rh k q).2) hk
    · dsimp only at hi ⊢
      rw [up2_n (by omega), up2_n (by omega), up2_n (by omega)] at hi
      rw [up2_n (by omega), up2_n (by omega), up2_n (by omega), up2_n (by omega), up2_n (by omega), up2_n (by omega)]
      exact rs i hi
  · have e := (kb 115 (by omega)).mp c
    have hit := hit 3 (by rw [e]; rfl) (by omega)
    rw [hit] at h0
    simp only [hit] at h1
    refine s_figures (w := 3) hn (by omega) ht hf (by omega) (fun z sp told => ⟨fun _ => h0 (by rw [z]; rfl) _ _, fun z => absurd rfl z⟩) (fun a2 V told z hV => ⟨fun z => absurd z (by decide), fun _ => ?_⟩)
    obtain ⟨-, -, i3⟩ := fg_ok _ a2 V z
    have b0 := i3 0; have b1 := i3 1; have b2 := i3 2
    rw [z] at h0
    simp only [z] at h1
    have hac : accN D (tx a) (V 0) (V 1) (V 2) = if D.1 1 0 < 5 ∧ V 0 < 9 ∧ 1 ≤ V 1 ∧ V 1 ≤ 20 ∧ V 2 < 4 then some (up2 (up2 (up2 D.1 6 (D.1 1 0) (V 1)) 7 (D.1 1 0) (V 2)) 1 0 (D.1 1 0 + 1), up2 D.2 1 (D.1 1 0) (V 0)) else none := by unfold accN; rw [if_neg (by omega), if_neg (by omega), if_pos e]
    have hno : ¬ (D.1 1 0 < 5 ∧ V 0 < 9 ∧ 1 ≤ V 1 ∧ V 1 ≤ 20 ∧ V 2 < 4) → ∀ sp told, K 0 sp told lk mn lo la ln pl ho si fi sz kn ti sm := fun z => h0 (by show (accN D (tx a) (V 0) (V 1) (V 2)).bind _ = _; rw [hac, if_neg z]; rfl)
    rw [i0, i1, i2, hV 0 (by omega), hV 1 (by omega), hV 2 (by omega), r2, show (5 : Int32) = nI 5 from rfl, show (8 : Int32) = nI 8 from rfl, show (3 : Int32) = nI 3 from rfl, nI_eq (by omega) (by omega), nI_ltI (by omega) (by omega), nI_leI (by omega) (by omega)]
    refine ⟨fun c1 => hno (by omega) _ _, fun c1 => ⟨fun c2 => hno (by omega) _ _, fun c2 => ?_⟩⟩
    refine s_inN (lo := 1) (hi := 20) (by omega) (by decide) (by decide) (fun c4 c5 => ⟨fun z => absurd z (by decide), fun _ => ⟨fun c6 => ?_, fun c6 => hno (by omega) _ _⟩⟩) (fun c => ⟨fun _ => hno (by omega) _ _, fun z => absurd rfl z⟩)
    rw [nI_add, nI_1, nI_clamp (by omega)]
    refine ⟨vp_in_nI (by omega) (by omega), vp_in_nI (by omega) (by omega), vp_in_nI (by omega) (by omega), ?_⟩
    refine h1 a2 _ _ _ _ _ _ _ _ _ _ _ _ _ _ _ (by show (accN D (tx a) (V 0) (V 1) (V 2)).bind _ = _; rw [hac, if_pos ⟨by omega, by omega, c4, c5, by omega⟩]; rfl) ?_ ⟨q1, kp_up q2 (by omega) (by omega), q3, q4, q5, q6, q7, q8, q9, q10, kp_up q11 (by omega) (by omega), kp_up q12 (by omega) (by omega), kp_up q13 (by omega) (by omega)⟩
    refine ⟨?_, ?_, ?_, ?_, ?_, fun k hk => ?_, fun i hi => ?_, fun k hk => ?_⟩
    · dsimp only; rw [up2_n (by omega), up2_n (by omega), up2_n (by omega)]; exact r1
    · dsimp only; rw [up2_s, pk_us]
    · dsimp only; rw [up2_n (by omega), up2_n (by omega), up2_n (by omega)]; exact r3
    · dsimp only; rw [up2_n (by omega), up2_n (by omega), up2_n (by omega)]; exact r4
    · dsimp only; rw [up2_n (by omega)]; exact r5
    · dsimp only at hk ⊢
      rw [up2_n (by omega), up2_n (by omega), up2_n (by omega)] at hk
      rw [up2_n (by omega), up2_n (by omega), up2_n (by omega), up2_n (by omega), up2_n (by omega), up2_n (by omega)]
      exact rh k hk
    · dsimp only at hi ⊢
      rw [up2_s] at hi
      refine ⟨row_o (fun q => (rs i q).1) hi, ?_, ?_⟩
      · rw [up2_n (by omega), up2_n (by omega)]; exact row_o (fun q => (rs i q).2.1) hi
      · rw [up2_n (by omega)]; exact row_o (fun q => by rw [up2_n (by omega)]; exact (rs i q).2.2) hi
    · dsimp only at hk ⊢
      rw [up2_n (by omega)] at hk
      rw [up2_n (by omega), up2_n (by omega), up2_n (by omega)]
      exact rl k hk
  · have e := (kb 116 (by omega)).mp c
    have hit := hit 1 (by rw [e]; rfl) (by omega)
    rw [hit] at h0
    simp only [hit] at h1
    refine s_figures (w := 1) hn (by omega) ht hf (by omega) (fun z sp told => ⟨fun _ => h0 (by rw [z]; rfl) _ _, fun z => absurd rfl z⟩) (fun a2 V told z hV => ⟨fun z => absurd z (by decide), fun _ => ?_⟩)
    obtain ⟨-, -, i3⟩ := fg_ok _ a2 V z
    have b0 := i3 0
    rw [z] at h0
    simp only [z] at h1
    have hac : accN D (tx a) (V 0) (V 1) (V 2) = if 1 ≤ V 0 ∧ V 0 ≤ 20 then some (up2 D.1 3 0 (V 0), D.2) else none := by unfold accN; rw [if_neg (by omega), if_neg (by omega), if_neg (by omega), if_pos e]
    have hno : ¬ (1 ≤ V 0 ∧ V 0 ≤ 20) → ∀ sp told, K 0 sp told lk mn lo la ln pl ho si fi sz kn ti sm := fun z => h0 (by show (accN D (tx a) (V 0) (V 1) (V 2)).bind _ = _; rw [hac, if_neg z]; rfl)
    rw [i0, i1, hV 0 (by omega)]
    refine s_inN (lo := 1) (hi := 20) (by omega) (by decide) (by decide) (fun c4 c5 => ⟨fun _ => ?_, fun z => absurd z (by decide)⟩) (fun c => ⟨fun z => absurd rfl z, fun _ => hno (by omega) _ _⟩)
    have v2 : vp_in 1 2 := vp_in_nI (n := 1) (by omega) (by omega)
    first
      | refine h1 a2 _ _ _ _ _ _ _ _ _ _ _ _ _ _ _ (by show (accN D (tx a) (V 0) (V 1) (V 2)).bind _ = _; rw [hac, if_pos ⟨c4, c5⟩]; rfl) ?_ ⟨q1, q2, q3, q4, kp_up q5 (by omega) (by omega), q6, q7, q8, q9, q10, q11, q12, q13⟩
      | refine ⟨v2, h1 a2 _ _ _ _ _ _ _ _ _ _ _ _ _ _ _ (by show (accN D (tx a) (V 0) (V 1) (V 2)).bind _ = _; rw [hac, if_pos ⟨c4, c5⟩]; rfl) ?_ ⟨q1, q2, q3, q4, kp_up q5 (by omega) (by omega), q6, q7, q8, q9, q10, q11, q12, q13⟩⟩
    refine ⟨?_, ?_, ?_, ?_, r5, fun k hk => ?_, fun i hi => ?_, rl⟩
    · dsimp only; rw [up2_n (by omega)]; exact r1
    · dsimp only; rw [up2_n (by omega)]; exact r2
    · dsimp only; rw [up2_n (by omega)]; exact r3
    · dsimp only; rw [up2_s, pk_us]
    · dsimp only at hk ⊢
      rw [up2_n (by omega)] at hk
      rw [up2_n (by omega), up2_n (by omega)]
      exact rh k hk
    · dsimp only at hi ⊢
      rw [up2_n (by omega)] at hi
      rw [up2_n (by omega), up2_n (by omega)]
      exact rs i hi
  · have e := (kb 119 (by omega)).mp c
    have hit := hit 1 (by rw [e]; rfl) (by omega)
    rw [hit] at h0
    simp only [hit] at h1
    refine s_figures (w := 1) hn (by omega) ht hf (by omega) (fun z sp told => ⟨fun _ => h0 (by rw [z]; rfl) _ _, fun z => absurd rfl z⟩) (fun a2 V told z hV => ⟨fun z => absurd z (by decide), fun _ => ?_⟩)
    obtain ⟨-, -, i3⟩ := fg_ok _ a2 V z
    have b0 := i3 0
    rw [z] at h0
    simp only [z] at h1
    have hac : accN D (tx a) (V 0) (V 1) (V 2) = if V 0 ≤ 60 then some (up2 D.1 2 0 (V 0), D.2) else none := by unfold accN; rw [if_neg (by omega), if_neg (by omega), if_neg (by omega), if_neg (by omega), if_pos e]
    have hno : ¬ (V 0 ≤ 60) → ∀ sp told, K 0 sp told lk mn lo la ln pl ho si fi sz kn ti sm := fun z => h0 (by show (accN D (tx a) (V 0) (V 1) (V 2)).bind _ = _; rw [hac, if_neg z]; rfl)
    rw [i0, i1, hV 0 (by omega), show (60 : Int32) = nI 60 from rfl, nI_leI (by omega) (by omega)]
    refine ⟨fun c4 => ?_, fun c4 => hno (by omega) _ _⟩
    have v2 : vp_in 1 2 := vp_in_nI (n := 1) (by omega) (by omega)
    first
      | refine h1 a2 _ _ _ _ _ _ _ _ _ _ _ _ _ _ _ (by show (accN D (tx a) (V 0) (V 1) (V 2)).bind _ = _; rw [hac, if_pos c4]; rfl) ?_ ⟨q1, q2, q3, kp_up q4 (by omega) (by omega), q5, q6, q7, q8, q9, q10, q11, q12, q13⟩
      | refine ⟨v2, h1 a2 _ _ _ _ _ _ _ _ _ _ _ _ _ _ _ (by show (accN D (tx a) (V 0) (V 1) (V 2)).bind _ = _; rw [hac, if_pos c4]; rfl) ?_ ⟨q1, q2, q3, kp_up q4 (by omega) (by omega), q5, q6, q7, q8, q9, q10, q11, q12, q13⟩⟩
    refine ⟨?_, ?_, ?_, ?_, r5, fun k hk => ?_, fun i hi => ?_, rl⟩
    · dsimp only; rw [up2_n (by omega)]; exact r1
    · dsimp only; rw [up2_n (by omega)]; exact r2
    · dsimp only; rw [up2_s, pk_us]
    · dsimp only; rw [up2_n (by omega)]; exact r4
    · dsimp only at hk ⊢
      rw [up2_n (by omega)] at hk
      rw [up2_n (by omega), up2_n (by omega)]
      exact rh k hk
    · dsimp only at hi ⊢
      rw [up2_n (by omega)] at hi
      rw [up2_n (by omega), up2_n (by omega)]
      exact rs i hi
  · refine h0 ?_ _ _
    have n1 : tx a ≠ 108 := fun e => c1 (by rw [e]; rfl)
    have n2 : tx a ≠ 112 := fun e => c2 (by rw [e]; rfl)
    have n3 : tx a ≠ 115 := fun e => c3 (by rw [e]; rfl)
    have n4 : tx a ≠ 116 := fun e => c4 (by rw [e]; rfl)
    have n5 : tx a ≠ 119 := fun e => c5 (by rw [e]; rfl)
    unfold itN
    rw [if_pos]
    unfold wdN
    rw [if_neg n1, if_neg n2, if_neg n3, if_neg n4, if_neg n5]
