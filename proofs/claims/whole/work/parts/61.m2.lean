/-! ===== the reference: the course, what was seen ===== -/
def mtw (T : Nat → Nat → Nat) (fp fh fm fz fk fw : Nat → Int32) : Prop := fp 0 = nI (T 0 0) ∧ (∀ k, k < T 0 0 → fh k = nI (T 4 k)) ∧ fm 0 = nI (T 1 0) ∧ (∀ i, i < T 1 0 → fz i = nI (T 6 i) ∧ fk i = nI (T 7 i)) ∧ fw 0 = nI (T 2 0)
theorem s_goLook {T h : Nat → Nat → Nat} {day q : Nat} {s : CS} {F H W lo fm ff fk fp fh la fz fw : Nat → Int32} {way : Int32} {K : Int32 → (Nat → Int32) → (Nat → Int32) → (Nat → Int32) → Prop} (hT : tok T) (hh : hok T h) (hq : q < h 0 0) (hd : 1 ≤ day) (hd2 : day ≤ 60) (hs : csok (T 1 0) s) (he : eq5 s F H W) (hm : mtw T fp fh fm fz fk fw) (hlo : lo q = nI (h 2 q)) (hla : la q = nI (h 3 q)) (hff : ∀ i, i < T 1 0 → ff i = nI (h 1 i))
    (k : ∀ way F H W, eq5 (fo (lkS T h day (h 2 q) (h 3 q)) (T 1 0) s) F H W → K way H F W) : pX9_goLook way lo fm H F ff fk fp fh la fz fw W (nI q) (nI day) K := by
  obtain ⟨t1, t2, t3, t4, t5, t6, t7, t8, t9⟩ := hT
  obtain ⟨m1, m2, m3, m4, m5⟩ := hm
  obtain ⟨w1, w2, w3, w4⟩ := hh.2.2 q hq
  have hh0 := hh.1
  unfold pX9_goLook
  rw [nI_clamp (by omega), hlo]
  refine ⟨vp_in_nI (by omega) (by omega), ?_⟩
  refine it5_rule (fun x _ H F W => ∃ i, i ≤ T 1 0 ∧ x = nI i ∧ eq5 (fo (lkS T h day (h 2 q) (h 3 q)) i s) F H W) (fun x _ _ _ _ => T 1 0 + 1 - x.toNatClampNeg) ?_ _ _ _ _ _ ⟨0, by omega, rfl, he⟩
  rintro rec x way H F W ⟨i, hi, rfl, he⟩ hrec
  have hok' : csok (T 1 0) (fo (lkS T h day (h 2 q) (h 3 q)) i s) := csok_fo (fun j s hj hs => csok_lkS hs w1 (by omega) (by omega) hd hd2) hs
  unfold pX9_goLook_B10
  rw [show (0 : Int32).toNatClampNeg = 0 from rfl, m3, nI_leI (by omega) (by omega)]
  refine br_c (fun c => ?_) (fun c => ⟨vp_in_nI (by omega) (by omega), ?_⟩)
  · have e : i = T 1 0 := by omega
    subst e
    exact k way F H W he
  have hFs : fo (lkS T h day (h 2 q) (h 3 q)) (i + 1) s = lkS T h day (h 2 q) (h 3 q) i (fo (lkS T h day (h 2 q) (h 3 q)) i s) := rfl
  have hnext : ∀ way, lkS T h day (h 2 q) (h 3 q) i (fo (lkS T h day (h 2 q) (h 3 q)) i s) = fo (lkS T h day (h 2 q) (h 3 q)) i s → rec (nI i + 1) way H F W := by
    intro way e
    rw [nI_1]
    exact hrec _ _ _ _ _ ⟨i + 1, by omega, rfl, by rw [hFs, e]; exact he⟩ (by rw [nI_clamp (by omega), nI_clamp (by omega)]; omega)
  rw [nI_clamp (by omega), nI_clamp (by omega), (he (h 2 q) (by omega)).2.1, (he i (by omega)).1]
  have sg : ∀ x : Int32, 0 ≤ x ↔ ¬ x < 0 := fun x => by rw [Int32.le_iff_toInt_le, Int32.lt_iff_toInt_lt]; omega
  rw [sg, sg]
  refine ⟨fun c2 => ?_, fun c2 => ⟨vp_in_nI (by omega) (by omega), fun c3 => ?_, fun c3 => ⟨vp_in_nI (by omega) (by omega), vp_in_nI (by omega) (by omega), ?_⟩⟩⟩
  · have e := lk_stop (T := T) (h := h) (day := day) (w := h 2 q) (p := h 3 q) (i := i) (s := s) c2 (T 1 0 - i)
    rw [show i + (T 1 0 - i) = T 1 0 by omega] at e
    exact k way F H W (by rw [e]; exact he)
  · exact hnext way (by rw [lkS, if_neg (fun z => c3 z.2.1)])
  have c2 := Decidable.not_not.mp c2
  have c3 := Decidable.not_not.mp c3
  have g1 := t9 i (by omega)
  have g2 := t9 (h 2 q) w1
  rw [hff i (by omega), (m4 i (by omega)).2]
  refine s_placeOn t2 (hh.2.1 i (by omega)) m1 (fun k hk => ⟨m2 k hk, by have := (t8 k hk).1; omega⟩) (by omega) hd (by omega) (fun way => ?_)
  rw [nI_clamp (by omega), hla, nI_eq (by have := pos_lt (P := T 0 0) (H := T 4) (kd := T 7 i) (d := day) (hh.2.1 i (by omega)); omega) (by omega)]
  refine ⟨vp_in_nI (by omega) (by omega), fun c4 => hnext way (by rw [lkS, if_neg (fun z => c4 z.2.2.1)]), fun c4 => ?_⟩
  refine s_doesFit t5 m5 (by omega) (by omega) (m4 i (by omega)).1 (m4 _ w1).1 g1.1 g1.2.1 g2.2.1 (by omega) ?_
  by_cases c5 : suN (T 2 0) (T 6 (h 2 q)) (T 6 i) day = true
  · rw [if_pos c5]
    refine ⟨fun z => absurd z (by decide), fun _ => ⟨vp_in_nI (by omega) (by omega), vp_in_nI (by omega) (by omega), vp_in_nI (by omega) (by omega), ?_⟩⟩
    rw [nI_1]
    refine hrec _ _ _ _ _ ⟨i + 1, by omega, rfl, ?_⟩ (by rw [nI_clamp (by omega), nI_clamp (by omega)]; omega)
    rw [hFs, lkS, if_pos ⟨c2, c3, c4, c5⟩]
    intro k hk
    obtain ⟨a1, a2, a3⟩ := he k hk
    exact ⟨upd_c a1, upd_c a2, upd_c a3⟩
  · rw [if_neg c5]
    exact ⟨fun _ => hnext way (by rw [lkS, if_neg (fun z => c5 z.2.2.2)]), fun z => absurd rfl z⟩
def mhd (T h : Nat → Nat → Nat) (ff fl lo la ln : Nat → Int32) : Prop := fl 0 = nI (h 0 0) ∧ (∀ i, i < T 1 0 → ff i = nI (h 1 i)) ∧ ∀ k, k < h 0 0 → lo k = nI (h 2 k) ∧ la k = nI (h 3 k) ∧ ln k = nI (h 4 k)
theorem s_goAll {T h : Nat → Nat → Nat} {F H W fl ln lo fm ff fk fp fh la fz fw : Nat → Int32} {way : Int32} {K : Int32 → (Nat → Int32) → (Nat → Int32) → (Nat → Int32) → Prop} (hT : tok T) (hh : hok T h) (hm : mtw T fp fh fm fz fk fw) (hl : mhd T h ff fl lo la ln)
    (k : ∀ way F H W, eq5 (crs T h) F H W → K way F H W) : pX9_goAll way F H W fl ln lo fm ff fk fp fh la fz fw K := by
  obtain ⟨t1, t2, t3, t4, t5, t6, t7, t8, t9⟩ := id hT
  obtain ⟨l1, l2, l3⟩ := hl
  have hh0 := hh.1
  unfold pX9_goAll
  refine it4_rule (fun x F H W => ∃ i, i ≤ 5 ∧ x = nI i ∧ ∀ j, j < i → F j = nm4 ∧ H j = nm4 ∧ W j = nm4) (fun x _ _ _ => 6 - x.toNatClampNeg) ?_ _ _ _ _ ⟨0, by omega, rfl, fun j hj => by omega⟩
  rintro rec x F H W ⟨i, hi, rfl, hj⟩ hrec
  unfold pX9_goAll_B2
  rw [show (5 : Int32) = nI 5 from rfl, nI_leI (by omega) (by omega)]
  refine br_c (fun c => ?_) (fun c => ⟨vp_in_nI (by omega) (by omega), vp_in_nI (by omega) (by omega), vp_in_nI (by omega) (by omega), ?_⟩)
  · have e : i = 5 := by omega
    subst e
    refine it5_rule (fun x _ F H W => ∃ d, d ≤ 60 ∧ x = nI (d + 1) ∧ eq5 (fo (dyA T h) d cs0) F H W) (fun x _ _ _ _ => 62 - x.toNatClampNeg) ?_ _ _ _ _ _ ⟨0, by omega, rfl, fun q hq => hj q hq⟩
    rintro rec x way F H W ⟨d, hd, rfl, he⟩ hrec
    unfold pX9_goAll_B39
    rw [lit_60, nI_ltI (by omega) (by omega)]
    refine br_c (fun c => ?_) (fun c => ?_)
    · have e : d = 60 := by omega
      subst e
      exact k way F H W he
    · have hok' : csok (T 1 0) (fo (dyA T h) d cs0) := csok_fo (fun d s hd hs => csok_dyA hT hh (by omega) hs) csok_0
      refine it5_rule (fun x _ F H W => ∃ q, q ≤ h 0 0 ∧ x = nI q ∧ eq5 (fo (lkA T h (d + 1)) q (fo (dyA T h) d cs0)) F H W) (fun x _ _ _ _ => h 0 0 + 1 - x.toNatClampNeg) ?_ _ _ _ _ _ ⟨0, by omega, rfl, he⟩
      rintro rec2 x way F H W ⟨q, hq, rfl, he⟩ hrec2
      unfold pX9_goAll_B47
      rw [show (0 : Int32).toNatClampNeg = 0 from rfl, l1, nI_leI (by omega) (by omega)]
      refine br_c (fun c2 => ?_) (fun c2 => ⟨vp_in_nI (by omega) (by omega), ?_⟩)
      · have e : q = h 0 0 := by omega
        subst e
        rw [nI_1]
        exact hrec _ _ _ _ _ ⟨d + 1, by omega, rfl, he⟩ (by rw [nI_clamp (by omega), nI_clamp (by omega)]; omega)
      · have hq2 := hh.2.2 q (by omega)
        have hl2 := l3 q (by omega)
        have hok2 : csok (T 1 0) (fo (lkA T h (d + 1)) q (fo (dyA T h) d cs0)) := csok_fo (fun z s hz hs => csok_lkA hT hh (by omega) (by omega) (by omega) hs) hok'
        have hs : fo (lkA T h (d + 1)) (q + 1) (fo (dyA T h) d cs0) = lkA T h (d + 1) q (fo (lkA T h (d + 1)) q (fo (dyA T h) d cs0)) := rfl
        rw [nI_clamp (by omega), hl2.2.2, nI_eq (by omega) (by omega), nI_1]
        refine ⟨fun c3 => ?_, fun c3 => ?_⟩
        · refine hrec2 _ _ _ _ _ ⟨q + 1, by omega, rfl, ?_⟩ (by rw [nI_clamp (by omega), nI_clamp (by omega)]; omega)
          rw [hs, lkA, if_neg c3]; exact he
        · refine s_goLook hT hh (by omega) (by omega) (by omega) hok2 he hm hl2.1 hl2.2.1 l2 (fun way F H W he2 => ?_)
          refine hrec2 _ _ _ _ _ ⟨q + 1, by omega, rfl, ?_⟩ (by rw [nI_clamp (by omega), nI_clamp (by omega)]; omega)
          rw [hs, lkA, if_pos c3]; exact he2
  · rw [nm4_rfl, nI_1, nI_clamp (by omega)]
    refine hrec _ _ _ _ ⟨i + 1, by omega, rfl, fun j hj2 => ?_⟩ (by rw [nI_clamp (by omega), nI_clamp (by omega)]; omega)
    by_cases e : j = i
    · rw [e, pk_us, pk_us, pk_us]; exact ⟨rfl, rfl, rfl⟩
    · rw [pk_un e, pk_un e, pk_un e]; exact hj j (by omega)
theorem td_eq : ∀ t, t < 21 → ∀ d, d < 101 → 1 ≤ t → ((d + t - 1) / t) * t = tdN t d := by decide +kernel
theorem s_goesOn {S t i : Nat} {s : CS} {F H W ft : Nat → Int32} {K : Int32 → Prop} (hS : S ≤ 5) (ht : 1 ≤ t) (ht2 : t ≤ 20) (hft : ft 0 = nI t) (hs : csok S s) (he : eq5 s F H W) (hi : i < S) (h : K (lvD t (s.2.2 i))) : pX9_goesOn W ft (nI i) K := by
  unfold pX9_goesOn
  rw [nI_clamp (by omega), (he i (by omega)).2.2, show (0 : Int32).toNatClampNeg = 0 from rfl, hft]
  unfold lvD at h
  refine ⟨vp_in_nI (by omega) (by omega), ?_⟩
  rcases (hs i).2.2.1 with e | ⟨d, d1, d2, e⟩
  · rw [e, if_pos rfl] at h
    rw [e]
    refine ⟨fun c => ?_, fun _ => h⟩
    have := nm4_neg
    rw [Int32.le_iff_toInt_le] at c; rw [Int32.lt_iff_toInt_lt] at this; omega
  · rw [e, if_neg (nI_ne4 (by omega)), nI_clamp (by omega)] at h
    rw [e]
    refine ⟨fun _ => ⟨vp_in_nI (by omega) (by omega), ?_, ?_⟩, fun c => absurd (nI_pos' (by omega)) c⟩
    · intro z; rw [show (0 : Int32) = nI 0 from rfl, nI_eq (by omega) (by omega)] at z; omega
    · have hdv : (d + t - 1) / t ≤ 100 := Nat.le_trans (Nat.div_le_self _ _) (by omega)
      rw [nI_add, show (1 : Int32) = nI 1 from rfl, pk_sub (by omega), pk_div (by omega) (by omega) (by omega), pk_mul, td_eq t (by omega) d (by omega) ht]
      exact h
theorem s_wasFound {T h : Nat → Nat → Nat} {i d : Nat} {F H W fl ln lo fm ff fk fp fh la fz fw : Nat → Int32} {way : Int32} {K : Int32 → Int32 → (Nat → Int32) → (Nat → Int32) → (Nat → Int32) → Prop} (hT : tok T) (hh : hok T h) (hm : mtw T fp fh fm fz fk fw) (hl : mhd T h ff fl lo la ln) (hi : i < T 1 0) (hd : d ≤ 100)
    (h1 : fbN (crs T h) i d → ∀ way F H W, K 1 way F H W) (h0 : ¬ fbN (crs T h) i d → ∀ way F H W, K 0 way F H W) : pX9_wasFound way F H W fl ln lo fm ff fk fp fh la fz fw (nI i) (nI d) K := by
  unfold pX9_wasFound
  have t4 := hT.2.2.2.1
  refine s_goAll hT hh hm hl (fun way F H W he => ?_)
  have hs := csok_crs hT hh
  rw [nI_clamp (by omega), (he i (by omega)).1]
  unfold fbN at h1 h0
  refine ⟨vp_in_nI (by omega) (by omega), fun c => h0 (fun z => z.1 c) _ _ _ _, fun c => ⟨vp_in_nI (by omega) (by omega), ?_⟩⟩
  have hn := neg_nm (by omega) (hs i).1
  obtain ⟨j, hj, e⟩ := (hs i).1.resolve_left (fun z => c (hn.mpr z))
  rw [e, nI_clamp (by omega)] at h1 h0
  rw [e, nI_clamp (by omega), (he j (by omega)).2.2]
  refine ⟨vp_in_nI (by omega) (by omega), fun c2 => h0 (fun z => ?_) _ _ _ _, fun c2 => h1 ⟨nI_pos (by omega), ?_⟩ _ _ _ _⟩
  · have := z.2; rw [Int32.lt_iff_toInt_lt] at this; rw [Int32.le_iff_toInt_le] at c2; omega
  · rw [Int32.le_iff_toInt_le] at c2; rw [Int32.lt_iff_toInt_lt]; omega
theorem s_goneBy {S t d : Nat} {s : CS} {F H W fm ft : Nat → Int32} {K : Int32 → Prop} (hS : S ≤ 5) (hfm : fm 0 = nI S) (ht : 1 ≤ t) (ht2 : t ≤ 20) (hft : ft 0 = nI t) (hd : d ≤ 100) (hs : csok S s) (he : eq5 s F H W) (h : K (nI (fo (lvC t d s.2.2) S 0))) : pX9_goneBy fm W ft (nI d) K := by
  unfold pX9_goneBy
  refine it2_rule (fun x y => ∃ i, i ≤ S ∧ y = nI i ∧ x = nI (fo (lvC t d s.2.2) i 0)) (fun _ y => S + 1 - y.toNatClampNeg) ?_ _ _ ⟨0, by omega, rfl, rfl⟩
  rintro rec x y ⟨i, hi, rfl, rfl⟩ hrec
  unfold pX9_goneBy_B4
  rw [show (0 : Int32).toNatClampNeg = 0 from rfl, hfm, nI_leI (by omega) (by omega)]
  refine br_c (fun c => ?_) (fun c => ?_)
  · have e : i = S := by omega
    subst e; exact h
  · refine s_goesOn hS ht ht2 hft hs he (by omega) ?_
    have hb : fo (lvC t d s.2.2) (i + 1) 0 = lvC t d s.2.2 i (fo (lvC t d s.2.2) i 0) := rfl
    have e1 : (1 : Int64).toInt = 1 := by decide
    have hcon : ∀ b : Bool, lvB t d (s.2.2 i) = b → rec (nI (fo (lvC t d s.2.2) i 0) + (if b = true then 1 else 0)) (nI i + 1) := by
      intro b hbb
      rw [nI_1]
      refine hrec _ _ ⟨i + 1, by omega, rfl, ?_⟩ (by rw [nI_clamp (by omega), nI_clamp (by omega)]; omega)
      rw [hb, lvC, hbb]
      cases b
      · show nI _ + nI 0 = _; rw [nI_add]; rfl
      · rw [if_pos rfl, if_pos rfl, nI_1]
    rcases lvD_cases (i := i) ht ht2 hs with ⟨e2, e3⟩ | ⟨q, q1, q2, e2, e3⟩
    · rw [e3]
      refine s_in (fun c1 c2 => ?_) (fun c => ⟨fun _ => ?_, fun z => absurd rfl z⟩)
      · rw [t64, e1] at c1
        have := nm4_neg; rw [Int32.lt_iff_toInt_lt] at this
        have h0 : (0 : Int32).toInt = 0 := by decide
        omega
      · exact hcon false (by unfold lvB; simp [e2])
    · rw [e3]
      refine s_in (fun c1 c2 => ⟨fun z => absurd z (by decide), fun _ => ?_⟩) (fun c => ⟨fun _ => ?_, fun z => absurd rfl z⟩)
      · rw [t64, t64, nI_toInt (by omega), nI_toInt (by omega)] at c2
        refine hcon true ?_
        unfold lvB
        have hn : ¬ nI d < nI q := by rw [nI_ltI (by omega) (by omega)]; omega
        simp [e2, e3, hn]
      · rw [t64, t64, e1, nI_toInt (by omega), nI_toInt (by omega)] at c
        refine hcon false ?_
        unfold lvB
        have hn : nI d < nI q := by rw [nI_ltI (by omega) (by omega)]; omega
        simp [e3, hn]
theorem s_isSo {T E : Nat → Nat → Nat} {m i a kd : Nat} {fp fh sk pl dy th : Nat → Int32} {way : Int32} {K : Int32 → Int32 → Prop} (hT : tok T) (hfp : fp 0 = nI (T 0 0)) (hfh : ∀ k, k < T 0 0 → fh k = nI (T 4 k)) (hE : eok T m E) (hs : csn m E sk pl dy th) (hi : i < T 1 0) (ha : a < T 0 0) (hk : kd < 100)
    (k : ∀ way, K (if agN T m E i a kd = true then 1 else 0) way) : pX9_isSo (nI m) way sk dy fp fh pl th (nI i) (nI a) (nI kd) K := by
  obtain ⟨t1, t2, t3, t4, t5, t6, t7, t8, t9⟩ := hT
  obtain ⟨hm, hE⟩ := hE
  unfold pX9_isSo
  unfold agN at k
  refine it3_rule (fun x y _ => ∃ q, q ≤ m ∧ y = nI q ∧ x = if fo (agS T E i a kd) q true = true then 1 else 0) (fun _ y _ => m + 1 - y.toNatClampNeg) ?_ _ _ _ ⟨0, by omega, rfl, rfl⟩
  rintro rec x y way ⟨q, hq, rfl, rfl⟩ hrec
  unfold pX9_isSo_B6
  rw [nI_leI (by omega) (by omega)]
  refine br_c (fun c => ?_) (fun c => ⟨vp_in_nI (by omega) (by omega), ?_⟩)
  · have e : q = m := by omega
    subst e
    refine ⟨?_, k way⟩
    split
    · exact nbool_1
    · exact nbool_0
  obtain ⟨e1, e2, e3, e4, e5⟩ := hE q (by omega)
  obtain ⟨f1, f2, f3, f4⟩ := hs q (by omega)
  have hgo : ∀ way v, v = (if fo (agS T E i a kd) (q + 1) true = true then (1 : Int32) else 0) → rec v (nI q + 1) way := by
    intro way v e
    rw [nI_1]
    exact hrec _ _ _ ⟨q + 1, by omega, rfl, e⟩ (by rw [nI_clamp (by omega), nI_clamp (by omega)]; omega)
  have hst : fo (agS T E i a kd) (q + 1) true = agS T E i a kd q (fo (agS T E i a kd) q true) := rfl
  rw [hst] at hgo
  clear hst
  generalize fo (agS T E i a kd) q true = b at *
  unfold agS at hgo
  rw [nI_clamp (by omega), f1, f2, f3, f4, nI_eq (by omega) (by omega)]
  refine ⟨fun c1 => hgo way _ ?_, fun c1 => ⟨vp_in_nI (by omega) (by omega), ?_⟩⟩
  · simp [c1]
  · refine s_placeOn t2 ha hfp (fun k hk => ⟨hfh k hk, by have := (t8 k hk).1; omega⟩) hk e3 (by omega) (fun way => ?_)
    rw [nI_eq (by have := pos_lt (P := T 0 0) (H := T 4) (kd := kd) (d := E 2 q) ha; omega) (by omega), show ((nI (E 3 q) = 1) = (nI (E 3 q) = nI 1)) from rfl, nI_eq (by omega) (by omega)]
    refine ⟨vp_in_nI (by omega) (by omega), fun c2 => ?_, fun c2 => ?_⟩
    · cases b
      · exact ⟨fun _ => hgo way _ (by simp), fun z => absurd rfl z⟩
      · refine ⟨fun z => absurd z (by decide), fun _ => ⟨vp_in_nI (by omega) (by omega), fun c3 => hgo way _ (by simp [c1, c2, c3]), fun c3 => hgo way _ (by simp [c1, c2, c3])⟩⟩
    · cases b
      · exact ⟨fun _ => hgo way _ (by simp), fun z => absurd rfl z⟩
      · refine ⟨fun z => absurd z (by decide), fun _ => ⟨vp_in_nI (by omega) (by omega), fun c3 => hgo way _ (by simp [c1, c2, c3]), fun c3 => hgo way _ (by simp [c1, c2, c3])⟩⟩
theorem s_startsOf {T E : Nat → Nat → Nat} {m i : Nat} {fp fh fk sk pl dy th : Nat → Int32} {way : Int32} {K : Int32 → Int32 → Prop} (hT : tok T) (hfp : fp 0 = nI (T 0 0)) (hfh : ∀ k, k < T 0 0 → fh k = nI (T 4 k)) (hfk : ∀ i, i < T 1 0 → fk i = nI (T 7 i)) (hE : eok T m E) (hs : csn m E sk pl dy th) (hi : i < T 1 0)
    (k : ∀ way, K (stB T m E i) way) : pX9_startsOf (nI m) way fp fk sk dy fh pl th (nI i) K := by
  obtain ⟨t1, t2, t3, t4, t5, t6, t7, t8, t9⟩ := id hT
  unfold pX9_startsOf
  refine it3_rule (fun x y _ => ∃ p, p ≤ T 0 0 ∧ y = nI p ∧ x = fo (btS (fun p => agN T m E i p (T 7 i))) p 0) (fun _ y _ => T 0 0 + 1 - y.toNatClampNeg) ?_ _ _ _ ⟨0, by omega, rfl, rfl⟩
  rintro rec x y way ⟨p, hp, rfl, rfl⟩ hrec
  unfold pX9_startsOf_B4
  rw [show (0 : Int32).toNatClampNeg = 0 from rfl, hfp, nI_leI (by omega) (by omega)]
  refine br_c (fun c => ?_) (fun c => ⟨vp_in_nI (by omega) (by omega), ?_⟩)
  · have e : p = T 0 0 := by omega
    subst e; exact k way
  rw [nI_clamp (by omega), hfk i hi]
  refine s_isSo hT hfp hfh hE hs hi (by omega) (by have := (t9 i hi).2.2; omega) (fun way => ?_)
  have hb := fo_s (btS (fun p => agN T m E i p (T 7 i))) p 0
  by_cases c2 : agN T m E i p (T 7 i) = true
  · rw [if_pos c2]
    refine ⟨fun q => absurd q (by decide), fun _ => ?_⟩
    rw [nI_1]
    exact hrec _ _ _ ⟨p + 1, by omega, rfl, by rw [hb, btS, if_pos c2]⟩ (by rw [nI_clamp (by omega), nI_clamp (by omega)]; omega)
  · rw [if_neg c2]
    refine ⟨fun _ => ?_, fun q => absurd rfl q⟩
    rw [nI_1, Int32.or_zero]
    exact hrec _ _ _ ⟨p + 1, by omega, rfl, by rw [hb, btS, if_neg c2]⟩ (by rw [nI_clamp (by omega), nI_clamp (by omega)]; omega)
