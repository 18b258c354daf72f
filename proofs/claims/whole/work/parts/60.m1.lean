/-! ===== the reference: its small methods ===== -/
theorem s_in {v lo hi : Int64} {K : Int32 → Prop} (h1 : lo.toInt ≤ v.toInt → v.toInt ≤ hi.toInt → K 1) (h0 : ¬ (lo.toInt ≤ v.toInt ∧ v.toInt ≤ hi.toInt) → K 0) : pX9_in v lo hi K := by
  unfold pX9_in
  rw [lg_cmp_lt, lg_cmp_gt, Int64.lt_iff_toInt_lt, Int64.lt_iff_toInt_lt]
  exact br_c (fun c => h0 (by omega)) (fun c => br_c (fun c2 => h0 (by omega)) (fun c2 => h1 (by omega) (by omega)))
theorem t64 (x : Int32) : x.toInt64.toInt = x.toInt := Int32.toInt_toInt64 x
theorem pred_toInt {P : Nat} (h : P < 2 ^ 30) : (nI P - 1).toInt = (P : Int) - 1 := by
  have := pk_sub_toInt (a := P) (b := 1) h (by omega)
  exact this
theorem s_mhas {P : Nat} {x : Int32} {K : Int32 → Prop} (hP : P < 2 ^ 30) (h1 : (∃ a, a < P ∧ x = nI a) → K 1) (h0 : (¬ ∃ a, a < P ∧ x = nI a) → K 0) : pX9_in x.toInt64 (0 : Int64) ((nI P - 1).toInt64) (fun r => nbool r ∧ K r) := by
  have e0 : (0 : Int64).toInt = 0 := by decide
  refine s_in (fun c1 c2 => ⟨nbool_1, h1 ?_⟩) (fun c => ⟨nbool_0, h0 ?_⟩)
  · rw [t64, e0] at c1
    rw [t64, t64, pred_toInt hP] at c2
    refine ⟨x.toInt.toNat, by omega, ?_⟩
    apply Int32.toInt_inj.mp
    rw [nI_toInt (by omega)]
    omega
  · rintro ⟨a, ha, rfl⟩
    rw [t64, t64, e0, pred_toInt hP, nI_toInt (by omega)] at c
    omega
theorem s_isPlace {P : Nat} {f : Nat → Int32} {x : Int32} {K : Int32 → Prop} (hP : P < 2 ^ 30) (hf : f 0 = nI P) (h1 : (∃ a, a < P ∧ x = nI a) → K 1) (h0 : (¬ ∃ a, a < P ∧ x = nI a) → K 0) : pX9_isPlace f x K := by
  unfold pX9_isPlace
  rw [show (0 : Int32).toNatClampNeg = 0 from rfl, hf]
  exact s_mhas hP h1 h0
theorem s_isSkin {P : Nat} {f : Nat → Int32} {x : Int32} {K : Int32 → Prop} (hP : P < 2 ^ 30) (hf : f 0 = nI P) (h1 : (∃ a, a < P ∧ x = nI a) → K 1) (h0 : (¬ ∃ a, a < P ∧ x = nI a) → K 0) : pX9_isSkin f x K := by
  unfold pX9_isSkin
  rw [show (0 : Int32).toNatClampNeg = 0 from rfl, hf]
  exact s_mhas hP h1 h0
theorem s_mIsDay {x : Int32} {K : Int32 → Prop} (h1 : (∃ d, 1 ≤ d ∧ d ≤ 60 ∧ x = nI d) → K 1) (h0 : (¬ ∃ d, 1 ≤ d ∧ d ≤ 60 ∧ x = nI d) → K 0) : pX9_isDay x K := by
  unfold pX9_isDay
  have e1 : (1 : Int64).toInt = 1 := by decide
  have e2 : (60 : Int64).toInt = 60 := by decide
  refine s_in (fun c1 c2 => ⟨nbool_1, h1 ?_⟩) (fun c => ⟨nbool_0, h0 ?_⟩)
  · rw [t64, e1] at c1
    rw [t64, e2] at c2
    refine ⟨x.toInt.toNat, by omega, by omega, ?_⟩
    apply Int32.toInt_inj.mp
    rw [nI_toInt (by omega)]
    omega
  · rintro ⟨d, d1, d2, rfl⟩
    rw [t64, e1, e2, nI_toInt (by omega)] at c
    omega
theorem s_nextOf {P a : Nat} {f : Nat → Int32} {K : Int32 → Prop} (hP : P < 2 ^ 31) (hf : f 0 = nI P) (ha : a < P) (h : K (nI (nxt P a))) : pX9_nextOf f (nI a) K := by
  unfold pX9_nextOf
  rw [show (0 : Int32).toNatClampNeg = 0 from rfl, hf]
  exact s_afterNext hP ha h
theorem fst_at {H : Nat → Nat} {hh i : Nat} (hq : fsth H hh i = i) (hy : H i = hh) : ∀ n, i ≤ n → fsth H hh n = i := by
  unfold fsth at hq ⊢
  intro n
  induction n with
  | zero => intro hn; have : i = 0 := by omega
            subst this; rfl
  | succ n ih =>
    intro hn
    by_cases e : i = n + 1
    · rw [e] at hq; rw [hq, e]
    · rw [fa_first]
      by_cases hin : i < n
      · rw [ih (by omega), if_pos hin]
      · have : n = i := by omega
        subst this
        rw [hq]
        simp [hy]
theorem s_lowestOf {H : Nat → Nat} {f : Nat → Int32} {a : Nat} {K : Int32 → Prop} (ha : a < 9) (hf : ∀ k, k ≤ a → f k = nI (H k) ∧ H k < 100) (h : K (nI (fsth H (H a) a))) : pX9_lowestOf f (nI (H a)) K := by
  unfold pX9_lowestOf
  refine it1_rule (fun x => ∃ i, i ≤ a ∧ x = nI i ∧ fsth H (H a) i = i) (fun x => a + 1 - x.toNatClampNeg) ?_ _ ⟨0, by omega, rfl, rfl⟩
  rintro rec x ⟨i, hi, rfl, hq⟩ hrec
  unfold pX9_lowestOf_B2
  rw [nI_clamp (by omega), (hf i hi).1, nI_eq (by have := (hf i hi).2; omega) (by have := (hf a (by omega)).2; omega)]
  refine ⟨vp_in_nI (by omega) (by omega), fun c => ?_, fun c => ?_⟩
  · rw [fst_at hq c a hi] at h; exact h
  · have hne : i ≠ a := fun e => c (by rw [e])
    rw [nI_1]
    refine hrec _ ⟨i + 1, by omega, rfl, ?_⟩ (by rw [nI_clamp (by omega), nI_clamp (by omega)]; omega)
    unfold fsth at hq ⊢
    rw [fa_first, hq]
    simp [c]
theorem s_moved {P : Nat} {H : Nat → Nat} {fp f : Nat → Int32} {a kd : Nat} {b : Bool} {way : Int32} {K : Int32 → Int32 → Prop} (hP : P ≤ 9) (ha : a < P) (hfp : fp 0 = nI P) (hf : ∀ k, k < P → f k = nI (H k) ∧ H k < 100) (hk : kd < 100) (hway : kd = 2 → 2 ≤ P → way = if b = true then -1 else 1)
    (h : ∀ way', (kd = 2 → 2 ≤ P → way' = if (stp P H kd (a, b)).2 = true then -1 else 1) → K (nI (stp P H kd (a, b)).1) way') : pX9_moved way fp f (nI a) (nI kd) K := by
  unfold pX9_moved
  rw [show (0 : Int32).toNatClampNeg = 0 from rfl, hfp]
  have kb : ∀ c : Nat, c < 256 → (nI kd = nI c ↔ kd = c) := fun c hc => nI_eq (by omega) (by omega)
  unfold stp at h
  refine ⟨fun c => ?_, fun c => ?_, fun c => ?_, fun c1 c2 c3 => ?_⟩
  · have e := (kb 1 (by omega)).mp c; subst e
    refine s_nextOf (by omega) hfp ha (h way (fun q => by omega))
  · have e := (kb 2 (by omega)).mp c; subst e
    simp only [show ¬ (2 : Nat) = 1 from by omega, if_false, if_true] at h
    rw [nI_1, nI_ltI (by omega) (by omega), show (0 : Int32) = nI 0 from rfl, nI_eq (by omega) (by omega), show (1 : Int32) = nI 1 from rfl, nI_eq (by omega) (by omega)]
    refine ⟨fun c2 => ⟨fun c3 => ⟨fun c4 => ?_, fun c4 => by omega⟩, fun c3 => ⟨fun c4 => ?_, fun c4 => by omega⟩⟩, fun c2 => ⟨fun c3 => ?_, fun c3 => ?_⟩⟩
    · have hw := hway rfl (by omega)
      have h1 : 0 < a := by omega
      have h2 : ¬ P ≤ a + 1 := by omega
      have h3 : ¬ P < 2 := by omega
      cases b
      · simp [h1, h2, h3] at h hw
        rw [hw, nI_1]
        exact h 1 (fun _ => rfl)
      · simp [h1, h2, h3] at h hw
        rw [hw]
        obtain ⟨q, rfl⟩ : ∃ q, a = q + 1 := ⟨a - 1, by omega⟩
        rw [pk_m1]
        exact h (-1) (fun _ => rfl)
    · subst c3
      have h3 : ¬ P < 2 := by omega
      simp [h3] at h
      exact h 1 (fun _ => rfl)
    · have h1 : 0 < a := by omega
      have h2 : P ≤ a + 1 := by omega
      have h3 : ¬ P < 2 := by omega
      simp [h1, h2, h3] at h
      obtain ⟨q, rfl⟩ : ∃ q, a = q + 1 := ⟨a - 1, by omega⟩
      rw [show (-nI 1 : Int32) = -1 from rfl, pk_m1]
      exact h (-1) (fun _ => rfl)
    · have h3 : P < 2 := by omega
      have h4 : a = 0 := by omega
      subst h4
      simp [h3] at h
      exact h (-1) (fun q => by omega)
  · have e := (kb 3 (by omega)).mp c; subst e
    simp only [show ¬ (3 : Nat) = 1 from by omega, show ¬ (3 : Nat) = 2 from by omega, if_false, if_true] at h
    have h := h way (fun q => by first | exact q.elim | omega)
    have hle := fsth_le H (H a) a
    rw [nI_clamp (by omega), (hf a ha).1]
    refine ⟨vp_in_nI (by omega) (by omega), s_lowestOf (by omega) (fun k hk2 => hf k (by omega)) ?_⟩
    rw [nI_eq (by omega) (by omega)]
    refine ⟨fun c4 => ?_, fun c4 => ?_⟩
    · rw [if_pos (by omega)] at h; exact h
    · rw [if_neg (by omega)] at h
      exact s_nextOf (by omega) hfp ha h
  · have h1 : kd ≠ 1 := fun e => c1 (by rw [e]; rfl)
    have h2 : kd ≠ 2 := fun e => c2 (by rw [e]; rfl)
    have h3 : kd ≠ 3 := fun e => c3 (by rw [e]; rfl)
    simp only [if_neg h1, if_neg h2, if_neg h3] at h
    exact h way (fun q => absurd q h2)
theorem s_placeOn {P : Nat} {H : Nat → Nat} {fp f : Nat → Int32} {a kd d : Nat} {K : Int32 → Int32 → Prop} (hP : P ≤ 9) (ha : a < P) (hfp : fp 0 = nI P) (hf : ∀ k, k < P → f k = nI (H k) ∧ H k < 100) (hk : kd < 100) (hd1 : 1 ≤ d) (hd : d ≤ 100)
    (h : ∀ way, K (nI (pos P H kd a d)) way) : pX9_placeOn fp f (nI a) (nI kd) (nI d) K := by
  unfold pX9_placeOn
  refine it3_rule (fun x y way => ∃ t, 1 ≤ t ∧ t ≤ d ∧ y = nI t ∧ x = nI (wlk P H kd a (t - 1)).1 ∧ (kd = 2 → 2 ≤ P → way = if (wlk P H kd a (t - 1)).2 = true then -1 else 1)) (fun _ y _ => d + 1 - y.toNatClampNeg) ?_ _ _ _ ⟨1, by omega, by omega, rfl, rfl, fun _ _ => rfl⟩
  rintro rec x y way ⟨t, t1, t2, rfl, rfl, hw⟩ hrec
  unfold pX9_placeOn_B11
  rw [nI_leI (by omega) (by omega)]
  refine br_c (fun c => ?_) (fun c => ?_)
  · have e : t = d := by omega
    subst e
    exact h way
  · have hlt := wlk_lt (H := H) (kd := kd) ha (t - 1)
    have hnext : wlk P H kd a t = stp P H kd (wlk P H kd a (t-1)) := by
      obtain ⟨e, rfl⟩ : ∃ e, t = e + 1 := ⟨t - 1, by omega⟩
      rfl
    refine s_moved (b := (wlk P H kd a (t - 1)).2) hP hlt hfp hf hk hw (fun way' hw' => ?_)
    rw [nI_1]
    refine hrec _ _ _ ⟨t + 1, by omega, by omega, rfl, ?_, ?_⟩ (by rw [nI_clamp (by omega), nI_clamp (by omega)]; omega)
    · rw [Nat.add_sub_cancel, hnext]
    · rw [Nat.add_sub_cancel, hnext]; exact hw'
theorem s_sizeOn {w g d i : Nat} {f fw : Nat → Int32} {K : Int32 → Prop} (hw : w ≤ 60) (hfw : fw 0 = nI w) (hi : i < 5) (hf : f i = nI g) (hg : 1 ≤ g) (hg2 : g ≤ 20) (hd : d ≤ 100) (h : K (nI (gN w g d))) : pX9_sizeOn f fw (nI i) (nI d) K := by
  unfold pX9_sizeOn
  rw [nI_clamp (by omega), hf, show (0 : Int32).toNatClampNeg = 0 from rfl, hfw, show (1 : Int32) = nI 1 from rfl, show (0 : Int32) = nI 0 from rfl, nI_eq (by omega) (by omega)]
  unfold gN at h
  refine ⟨vp_in_nI (by omega) (by omega), fun c => ⟨c, ?_⟩, fun c => ?_⟩
  · rw [if_neg c] at h
    rw [pk_div (by omega) (by omega) (by omega)]
    have hqb : d / w ≤ 100 := Nat.le_trans (Nat.div_le_self d w) hd
    generalize d / w = q at *
    by_cases hq : q ≤ g
    · rw [pk_sub hq, nI_leI (by omega) (by omega)]
      refine br_c (fun c2 => ?_) (fun c2 => ?_)
      · rw [show max 1 (g - q) = g - q by omega] at h; exact h
      · rw [show max 1 (g - q) = 1 by omega] at h; exact h
    · have hlt : nI g - nI q < 0 := pk_sneg (by omega) (by omega)
      refine br_c (fun c2 => ?_) (fun c2 => ?_)
      · exfalso
        rw [Int32.le_iff_toInt_le] at c2
        rw [Int32.lt_iff_toInt_lt] at hlt
        have h1 : (nI 1).toInt = 1 := by decide
        have h0 : (0 : Int32).toInt = 0 := by decide
        omega
      · rw [show max 1 (g - q) = 1 by omega] at h; exact h
  · rw [if_pos c] at h
    rw [pk_sub (by omega), Nat.sub_zero, nI_leI (by omega) (by omega)]
    refine br_c (fun c2 => ?_) (fun c2 => ?_)
    · rw [show max 1 g = g by omega] at h; exact h
    · rw [show max 1 g = 1 by omega] at h; exact h
theorem s_doesFit {w gw gi d i k : Nat} {f fw : Nat → Int32} {K : Int32 → Prop} (hw : w ≤ 60) (hfw : fw 0 = nI w) (hi : i < 5) (hk : k < 5) (hf : f k = nI gi) (hf2 : f i = nI gw) (hg : 1 ≤ gi) (hg2 : gi ≤ 20) (hg3 : gw ≤ 20) (hd : d ≤ 100) (h : K (if suN w gw gi d = true then 1 else 0)) : pX9_doesFit f fw (nI i) (nI k) (nI d) K := by
  unfold pX9_doesFit
  refine s_sizeOn hw hfw hk hf hg hg2 hd ⟨vp_in_nI (by omega) (by omega), ?_⟩
  have hb := gN_le (w := w) (d := d) hg
  rw [nI_clamp (by omega), hf2]
  have e1 : (-2 : Int64).toInt = -2 := by decide
  have e2 : (2 : Int64).toInt = 2 := by decide
  unfold suN at h
  refine s_in (fun c1 c2 => ⟨nbool_1, ?_⟩) (fun c => ⟨nbool_0, ?_⟩)
  · rw [t64, pk_sub_toInt (by omega) (by omega), e1] at c1
    rw [t64, pk_sub_toInt (by omega) (by omega), e2] at c2
    rw [if_pos] at h
    · exact h
    · simp only [Bool.and_eq_true, decide_eq_true_eq]; omega
  · rw [t64, pk_sub_toInt (by omega) (by omega), e1, e2] at c
    rw [if_neg] at h
    · exact h
    · simp only [Bool.and_eq_true, decide_eq_true_eq]; omega
