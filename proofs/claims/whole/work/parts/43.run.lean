theorem s_fill {f : Nat → Int32} {n : Nat} {v : Int32} {K : (Nat → Int32) → Prop} (hn : n < 2 ^ 31) (h : ∀ g : Nat → Int32, (∀ k, k < n → g k = v) → K g) : pJ7_fill_53178 f n v K := by
  unfold pJ7_fill_53178
  refine it2_rule (fun x g => ∃ i, i ≤ n ∧ x = nI i ∧ ∀ k, k < i → g k = v) (fun x _ => n + 1 - x.toNatClampNeg) ?_ _ _ ⟨0, by omega, rfl, fun k hk => by omega⟩
  rintro rec x g ⟨i, hi, rfl, hg⟩ hrec
  unfold pJ7_fill_53178_B5
  rw [nI_leI hn (by omega)]
  refine br_c (fun c => h g (fun k hk => hg k (by omega))) (fun c => ⟨vp_in_nI (by omega) hn, ?_⟩)
  rw [nI_1, nI_clamp (by omega)]
  refine hrec _ _ ⟨i + 1, by omega, rfl, fun k hk => ?_⟩ (by rw [nI_clamp (by omega), nI_clamp (by omega)]; omega)
  by_cases e : k = i
  · rw [e, pk_us]
  · rw [pk_un e]; exact hg k (by omega)
theorem updR_s {B : Nat → Nat → Int32} {j : Nat} {f : Nat → Int32} : updR B j f j = f := if_pos rfl
theorem updR_n {B : Nat → Nat → Int32} {j k : Nat} {f : Nat → Int32} (h : k ≠ j) : updR B j f k = B k := if_neg h
theorem s_run {T h : Nat → Nat → Nat} {F H W st ki ho ld lo lp gi : Nat → Int32} {B : Nat → Nat → Int32} {K : (Nat → Int32) → (Nat → Int32) → (Nat → Int32) → (Nat → Nat → Int32) → Prop} (hT : tok T) (hh : hok T h) (hw : ctw T ho gi ki) (hst : ∀ i, i < T 1 0 → st i = nI (h 1 i)) (hl : chd h lo lp ld)
    (k : ∀ F H W B, eq5 (crs T h) F H W → cpt T h B → K F H W B) : pX1_run F H W (nI (T 0 0)) (nI (T 1 0)) (nI (T 2 0)) st ki B ho (nI (h 0 0)) ld lo lp gi K := by
  obtain ⟨t1, t2, t3, t4, t5, t6, t7, t8, t9⟩ := id hT
  unfold pX1_run
  refine s_fill (by omega) (fun F hF => s_fill (by omega) (fun H hH => s_fill (by omega) (fun W hW => ?_)))
  refine it2_rule (fun x B => ∃ i, i ≤ T 1 0 ∧ x = nI i ∧ ∀ j, j < i → ∀ d, 1 ≤ d → d ≤ 60 → B j d = nI (psN T h j d)) (fun x _ => T 1 0 + 1 - x.toNatClampNeg) ?_ _ _ ⟨0, by omega, rfl, fun j hj => by omega⟩
  rintro rec x B ⟨i, hi, rfl, hB⟩ hrec
  unfold pX1_run_B29
  rw [nI_leI (by omega) (by omega)]
  refine br_c (fun c => ?_) (fun c => ⟨vp_in_nI (by omega) (by omega), vp_in_nI (by omega) (by omega), vp_in_nI (by omega) (by omega), ?_⟩)
  · have e : i = T 1 0 := by omega
    subst e
    have hBc : cpt T h B := hB
    refine it4_rule (fun x F H W => ∃ d, d ≤ 60 ∧ x = nI (d + 1) ∧ eq5 (fo (dyA T h) d cs0) F H W) (fun x _ _ _ => 62 - x.toNatClampNeg) ?_ _ _ _ _ ⟨0, by omega, rfl, fun q hq => ⟨hF q hq, hH q hq, hW q hq⟩⟩
    rintro rec x F H W ⟨d, hd, rfl, he⟩ hrec
    unfold pX1_run_B70
    rw [lit_60, nI_ltI (by omega) (by omega)]
    refine br_c (fun c => ?_) (fun c => ?_)
    · have e : d = 60 := by omega
      subst e
      exact k F H W B he hBc
    · have hok' : csok (T 1 0) (fo (dyA T h) d cs0) := csok_fo (fun d s hd hs => csok_dyA hT hh (by omega) hs) csok_0
      refine it4_rule (fun x F H W => ∃ q, q ≤ h 0 0 ∧ x = nI q ∧ eq5 (fo (lkA T h (d + 1)) q (fo (dyA T h) d cs0)) F H W) (fun x _ _ _ => h 0 0 + 1 - x.toNatClampNeg) ?_ _ _ _ _ ⟨0, by omega, rfl, he⟩
      have hh0 := hh.1
      rintro rec2 x F H W ⟨q, hq, rfl, he⟩ hrec2
      unfold pX1_run_B80
      rw [nI_leI (by omega) (by omega)]
      refine br_c (fun c2 => ?_) (fun c2 => ⟨vp_in_nI (by omega) (by omega), ?_⟩)
      · have e : q = h 0 0 := by omega
        subst e
        rw [nI_1]
        exact hrec _ _ _ _ ⟨d + 1, by omega, rfl, he⟩ (by rw [nI_clamp (by omega), nI_clamp (by omega)]; omega)
      · have hq2 := hh.2.2 q (by omega)
        have hl2 := hl q (by omega)
        have hok2 : csok (T 1 0) (fo (lkA T h (d + 1)) q (fo (dyA T h) d cs0)) := csok_fo (fun z s hz hs => csok_lkA hT hh (by omega) (by omega) (by omega) hs) hok'
        have hs : fo (lkA T h (d + 1)) (q + 1) (fo (dyA T h) d cs0) = lkA T h (d + 1) q (fo (lkA T h (d + 1)) q (fo (dyA T h) d cs0)) := rfl
        rw [nI_clamp (by omega), hl2.2.2, hl2.1, hl2.2.1, nI_eq (by omega) (by omega), nI_1]
        refine ⟨fun c3 => ?_, fun c3 => ⟨vp_in_nI (by omega) (by omega), vp_in_nI (by omega) (by omega), ?_⟩⟩
        · refine hrec2 _ _ _ _ ⟨q + 1, by omega, rfl, ?_⟩ (by rw [nI_clamp (by omega), nI_clamp (by omega)]; omega)
          rw [hs, lkA, if_neg c3]; exact he
        · refine s_lookFor hT hh hq2.1 hq2.2.1 (by omega) (by omega) hok2 he (fun i hi => (hw.2 i hi).1) hBc (fun F H W he2 => ?_)
          refine hrec2 _ _ _ _ ⟨q + 1, by omega, rfl, ?_⟩ (by rw [nI_clamp (by omega), nI_clamp (by omega)]; omega)
          rw [hs, lkA, if_pos c3]; exact he2
  · rw [nI_clamp (by omega), hst i (by omega), (hw.2 i (by omega)).2]
    refine s_walk t2 (hh.2.1 i (by omega)) (fun k hk => ⟨hw.1 k hk, by have := (t8 k hk).1; omega⟩) (by have := (t9 i (by omega)).2.2; omega) (by omega) (fun g hg => ?_)
    rw [nI_1]
    refine hrec _ _ ⟨i + 1, by omega, rfl, fun j hj d d1 d2 => ?_⟩ (by rw [nI_clamp (by omega), nI_clamp (by omega)]; omega)
    by_cases e : j = i
    · rw [e, updR_s]; exact hg d d1 d2 (by omega)
    · rw [updR_n e]; exact hB j (by omega) d d1 d2
/-! ===== what the course says ===== -/
/-- found on a day before -/
def fbN (s : CS) (i d : Nat) : Prop := ¬ s.1 i < 0 ∧ s.2.2 (s.1 i).toNatClampNeg < nI d
theorem s_isFoundBefore {S i d : Nat} {s : CS} {F H W : Nat → Int32} {K : Int32 → Prop} (hS : S ≤ 5) (hs : csok S s) (he : eq5 s F H W) (hi : i < S) (hd : d ≤ 100) (h1 : fbN s i d → K 1) (h0 : ¬ fbN s i d → K 0) : pX1_isFoundBefore F W (nI i) (nI d) K := by
  unfold pX1_isFoundBefore
  rw [nI_clamp (by omega), (he i (by omega)).1, nm4_rfl]
  have hn := neg_nm (by omega) (hs i).1
  refine ⟨vp_in_nI (by omega) (by omega), fun c => h0 (fun q => q.1 (hn.mpr c)), fun c => ⟨vp_in_nI (by omega) (by omega), ?_⟩⟩
  obtain ⟨j, hj, e⟩ := (hs i).1.resolve_left c
  unfold fbN at h1 h0
  rw [e, nI_clamp (by omega)] at h1 h0
  rw [e, nI_clamp (by omega), (he j (by omega)).2.2]
  refine ⟨vp_in_nI (by omega) (by omega), fun c2 => h0 (fun q => ?_), fun c2 => h1 ⟨nI_pos (by omega), ?_⟩⟩
  · have := q.2; rw [Int32.lt_iff_toInt_lt] at this; rw [Int32.le_iff_toInt_le] at c2; omega
  · rw [Int32.le_iff_toInt_le] at c2; rw [Int32.lt_iff_toInt_lt]; omega
/-- the day on which a woman leaves -/
def lvD (t : Nat) (w : Int32) : Int32 := if w = nm4 then nm4 else nI (tdN t w.toNatClampNeg)
theorem s_leaveDay {S t i : Nat} {s : CS} {F H W : Nat → Int32} {K : Int32 → Prop} (hS : S ≤ 5) (ht : 1 ≤ t) (ht2 : t ≤ 20) (hs : csok S s) (he : eq5 s F H W) (hi : i < S) (h : K (lvD t (s.2.2 i))) : pX1_leaveDay W (nI t) (nI i) K := by
  unfold pX1_leaveDay
  rw [nI_clamp (by omega), (he i (by omega)).2.2, nm4_rfl]
  unfold lvD at h
  refine ⟨vp_in_nI (by omega) (by omega), fun c => ⟨vp_in_nI (by omega) (by omega), ?_⟩, fun c => ?_⟩
  · rw [if_neg c] at h
    obtain ⟨d, d1, d2, e⟩ := (hs i).2.2.1.resolve_left c
    rw [e] at h ⊢
    rw [nI_clamp (by omega)] at h
    exact s_tideFrom ht ht2 (by omega) h
  · rw [if_pos c] at h; exact h
theorem lvD_cases {S t i : Nat} {s : CS} (ht : 1 ≤ t) (ht2 : t ≤ 20) (hs : csok S s) : (s.2.2 i = nm4 ∧ lvD t (s.2.2 i) = nm4) ∨ ∃ q, 1 ≤ q ∧ q < 80 ∧ ¬ s.2.2 i = nm4 ∧ lvD t (s.2.2 i) = nI q := by
  rcases (hs i).2.2.1 with e | ⟨d, d1, d2, e⟩
  · left; exact ⟨e, by rw [e]; rfl⟩
  · right
    have := tdN_ge (t := t) (d := d) ht
    refine ⟨tdN t d, by omega, by omega, by rw [e]; exact nI_ne4 (by omega), ?_⟩
    unfold lvD
    rw [e, if_neg (nI_ne4 (by omega)), nI_clamp (by omega)]
/-- she leaves by that day -/
def lvB (t d : Nat) (w : Int32) : Bool := decide (¬ w = nm4) && decide (¬ nI d < lvD t w)
theorem s_leavesBy {S t i d : Nat} {s : CS} {F H W : Nat → Int32} {K : Int32 → Prop} (hS : S ≤ 5) (ht : 1 ≤ t) (ht2 : t ≤ 20) (hs : csok S s) (he : eq5 s F H W) (hi : i < S) (h : K (if lvB t d (s.2.2 i) = true then 1 else 0)) : pX1_leavesBy W (nI t) (nI i) (nI d) K := by
  unfold pX1_leavesBy
  rw [nI_clamp (by omega), (he i (by omega)).2.2, nm4_rfl]
  unfold lvB at h
  refine ⟨vp_in_nI (by omega) (by omega), fun c => ?_, fun c => ?_⟩
  · simp [c] at h; exact h
  · refine s_leaveDay hS ht ht2 hs he hi (br_c (fun c2 => ?_) (fun c2 => ?_))
    · simp [c2] at h; exact h
    · simp [c, c2] at h; exact h
def lvC (t d : Nat) (W : Nat → Int32) (i : Nat) (n : Nat) : Nat := if lvB t d (W i) = true then n + 1 else n
theorem lvC_le (t d : Nat) (W : Nat → Int32) : ∀ n, fo (lvC t d W) n 0 ≤ n
  | 0 => Nat.le_refl 0
  | n + 1 => by
    have := lvC_le t d W n
    rw [fo_s]; unfold lvC at *; split <;> omega
theorem s_leaversBy {S t d : Nat} {s : CS} {F H W : Nat → Int32} {K : Int32 → Prop} (hS : S ≤ 5) (ht : 1 ≤ t) (ht2 : t ≤ 20) (hs : csok S s) (he : eq5 s F H W) (h : K (nI (fo (lvC t d s.2.2) S 0))) : pX1_leaversBy (nI S) (nI t) W (nI d) K := by
  unfold pX1_leaversBy
  refine it2_rule (fun x y => ∃ i, i ≤ S ∧ y = nI i ∧ x = nI (fo (lvC t d s.2.2) i 0)) (fun _ y => S + 1 - y.toNatClampNeg) ?_ _ _ ⟨0, by omega, rfl, rfl⟩
  rintro rec x y ⟨i, hi, rfl, rfl⟩ hrec
  unfold pX1_leaversBy_B5
  rw [nI_leI (by omega) (by omega)]
  refine br_c (fun c => ?_) (fun c => ?_)
  · have e : i = S := by omega
    subst e; exact h
  · refine s_leavesBy hS ht ht2 hs he (by omega) ?_
    have hb : fo (lvC t d s.2.2) (i + 1) 0 = lvC t d s.2.2 i (fo (lvC t d s.2.2) i 0) := rfl
    by_cases c2 : lvB t d (s.2.2 i) = true
    · rw [if_pos c2]
      refine ⟨fun q => absurd q (by decide), fun _ => ?_⟩
      rw [nI_1, nI_1]
      exact hrec _ _ ⟨i + 1, by omega, rfl, by rw [hb, lvC, if_pos c2]⟩ (by rw [nI_clamp (by omega), nI_clamp (by omega)]; omega)
    · rw [if_neg c2]
      refine ⟨fun _ => ?_, fun q => absurd rfl q⟩
      rw [nI_1]
      exact hrec _ _ ⟨i + 1, by omega, rfl, by rw [hb, lvC, if_neg c2]⟩ (by rw [nI_clamp (by omega), nI_clamp (by omega)]; omega)
/-- the last day on which one leaves -/
def lvL (t d : Nat) (W : Nat → Int32) (i : Nat) (m : Int32) : Int32 := if lvB t d (W i) = true ∧ m < lvD t (W i) then lvD t (W i) else m
theorem s_lastLeaveBy {S t d : Nat} {s : CS} {F H W : Nat → Int32} {K : Int32 → Prop} (hS : S ≤ 5) (ht : 1 ≤ t) (ht2 : t ≤ 20) (hs : csok S s) (he : eq5 s F H W) (h : K (fo (lvL t d s.2.2) S nm4)) : pX1_lastLeaveBy (nI S) (nI t) W (nI d) K := by
  unfold pX1_lastLeaveBy
  refine it2_rule (fun x y => ∃ i, i ≤ S ∧ y = nI i ∧ x = fo (lvL t d s.2.2) i nm4) (fun _ y => S + 1 - y.toNatClampNeg) ?_ _ _ ⟨0, by omega, rfl, rfl⟩
  rintro rec x y ⟨i, hi, rfl, rfl⟩ hrec
  unfold pX1_lastLeaveBy_B6
  rw [nI_leI (by omega) (by omega)]
  refine br_c (fun c => ?_) (fun c => ?_)
  · have e : i = S := by omega
    subst e; exact h
  · refine s_leavesBy hS ht ht2 hs he (by omega) ?_
    have hb : fo (lvL t d s.2.2) (i + 1) nm4 = lvL t d s.2.2 i (fo (lvL t d s.2.2) i nm4) := rfl
    by_cases c2 : lvB t d (s.2.2 i) = true
    · rw [if_pos c2]
      refine ⟨fun q => absurd q (by decide), fun _ => s_leaveDay hS ht ht2 hs he (by omega) (fun y ey => ?_)⟩
      rw [nI_1]
      refine hrec _ _ ⟨i + 1, by omega, rfl, ?_⟩ (by rw [nI_clamp (by omega), nI_clamp (by omega)]; omega)
      rw [hb, lvL, ey]
      by_cases c3 : fo (lvL t d s.2.2) i nm4 < lvD t (s.2.2 i)
      · rw [if_pos c3, if_pos ⟨c2, c3⟩]
      · rw [if_neg c3, if_neg (fun q => c3 q.2)]
    · rw [if_neg c2]
      refine ⟨fun _ => ?_, fun q => absurd rfl q⟩
      rw [nI_1]
      exact hrec _ _ ⟨i + 1, by omega, rfl, by rw [hb, lvL, if_neg (fun q => c2 q.1)]⟩ (by rw [nI_clamp (by omega), nI_clamp (by omega)]; omega)
