/-! ===== bits and sets of the reference ===== -/
def ftB (T : Nat → Nat → Nat) (i d : Nat) : Int32 := fo (btS (fun k => suN (T 2 0) (T 6 i) (T 6 k) d)) (T 1 0) 0
theorem s_fitsC {T : Nat → Nat → Nat} {i d : Nat} {gi : Nat → Int32} {K : Int32 → Prop} (hT : tok T) (hg : ∀ k, k < T 1 0 → gi k = nI (T 6 k)) (hi : i < T 1 0) (hd : d ≤ 100) (h : K (ftB T i d)) : ∃ n_ : Nat, it2 (pX8_fits_B25 (nI i) (nI d) (nI (T 1 0)) (nI (T 2 0)) gi K) n_ 0 0 := by
  obtain ⟨t1, t2, t3, t4, t5, t6, t7, t8, t9⟩ := id hT
  refine it2_rule (fun x y => ∃ p, p ≤ T 1 0 ∧ y = nI p ∧ x = fo (btS (fun k => suN (T 2 0) (T 6 i) (T 6 k) d)) p 0) (fun _ y => T 1 0 + 1 - y.toNatClampNeg) ?_ _ _ ⟨0, by omega, rfl, rfl⟩
  rintro rec x y ⟨p, hp, rfl, rfl⟩ hrec
  unfold pX8_fits_B25
  rw [nI_leI (by omega) (by omega)]
  refine br_c (fun c => ?_) (fun c => ?_)
  · have e : p = T 1 0 := by omega
    subst e; exact h
  refine s_suits t5 (by omega) (by omega) (hg p (by omega)) (hg i hi) (t9 p (by omega)).1 (t9 p (by omega)).2.1 (t9 i hi).2.1 hd ?_
  have hb := fo_s (btS (fun k => suN (T 2 0) (T 6 i) (T 6 k) d)) p 0
  by_cases c2 : suN (T 2 0) (T 6 i) (T 6 p) d = true
  · rw [if_pos c2]
    refine ⟨fun q => absurd q (by decide), fun _ => ?_⟩
    rw [nI_1]
    exact hrec _ _ ⟨p + 1, by omega, rfl, by rw [hb, btS, if_pos c2]⟩ (by rw [nI_clamp (by omega), nI_clamp (by omega)]; omega)
  · rw [if_neg c2]
    refine ⟨fun _ => ?_, fun q => absurd rfl q⟩
    rw [nI_1]
    exact hrec _ _ ⟨p + 1, by omega, rfl, by rw [hb, btS, if_neg c2]⟩ (by rw [nI_clamp (by omega), nI_clamp (by omega)]; omega)
theorem s_fitsM {T : Nat → Nat → Nat} {i d : Nat} {fm fz fw : Nat → Int32} {K : Int32 → Prop} (hT : tok T) (hfm : fm 0 = nI (T 1 0)) (hfw : fw 0 = nI (T 2 0)) (hg : ∀ k, k < T 1 0 → fz k = nI (T 6 k)) (hi : i < T 1 0) (hd : d ≤ 100) (h : K (ftB T i d)) : ∃ n_ : Nat, it2 (pX9_fits_B22 (nI i) (nI d) fm fz fw K) n_ 0 0 := by
  obtain ⟨t1, t2, t3, t4, t5, t6, t7, t8, t9⟩ := id hT
  refine it2_rule (fun x y => ∃ p, p ≤ T 1 0 ∧ y = nI p ∧ x = fo (btS (fun k => suN (T 2 0) (T 6 i) (T 6 k) d)) p 0) (fun _ y => T 1 0 + 1 - y.toNatClampNeg) ?_ _ _ ⟨0, by omega, rfl, rfl⟩
  rintro rec x y ⟨p, hp, rfl, rfl⟩ hrec
  unfold pX9_fits_B22
  rw [show (0 : Int32).toNatClampNeg = 0 from rfl, hfm, nI_leI (by omega) (by omega)]
  refine br_c (fun c => ?_) (fun c => ?_)
  · have e : p = T 1 0 := by omega
    subst e; exact h
  refine s_doesFit t5 hfw (by omega) (by omega) (hg p (by omega)) (hg i hi) (t9 p (by omega)).1 (t9 p (by omega)).2.1 (t9 i hi).2.1 hd ?_
  have hb := fo_s (btS (fun k => suN (T 2 0) (T 6 i) (T 6 k) d)) p 0
  by_cases c2 : suN (T 2 0) (T 6 i) (T 6 p) d = true
  · rw [if_pos c2]
    refine ⟨fun q => absurd q (by decide), fun _ => ?_⟩
    rw [nI_1]
    exact hrec _ _ ⟨p + 1, by omega, rfl, by rw [hb, btS, if_pos c2]⟩ (by rw [nI_clamp (by omega), nI_clamp (by omega)]; omega)
  · rw [if_neg c2]
    refine ⟨fun _ => ?_, fun q => absurd rfl q⟩
    rw [nI_1, Int32.or_zero]
    exact hrec _ _ ⟨p + 1, by omega, rfl, by rw [hb, btS, if_neg c2]⟩ (by rw [nI_clamp (by omega), nI_clamp (by omega)]; omega)
theorem s_lawsM {T h E : Nat → Nat → Nat} {m i : Nat} {fp fh fi sk pl dy th : Nat → Int32} {way : Int32} {K : Int32 → Int32 → Prop} (hT : tok T) (hh : hok T h) (hfp : fp 0 = nI (T 0 0)) (hfh : ∀ k, k < T 0 0 → fh k = nI (T 4 k)) (hfi : fi i = nI (h 1 i)) (hE : eok T m E) (hs : csn m E sk pl dy th) (hi : i < T 1 0)
    (k : ∀ way, K (lwB T h m E i) way) : ∃ n_ : Nat, it3 (pX9_laws_B14 (nI i) (nI m) fi sk dy fp fh pl th K) n_ 0 0 way := by
  obtain ⟨t1, t2, t3, t4, t5, t6, t7, t8, t9⟩ := id hT
  refine it3_rule (fun x y _ => ∃ p, p ≤ 4 ∧ y = nI p ∧ x = fo (btS (fun kd => agN T m E i (h 1 i) kd)) p 0) (fun _ y _ => 5 - y.toNatClampNeg) ?_ _ _ _ ⟨0, by omega, rfl, rfl⟩
  rintro rec x y g ⟨p, hp, rfl, rfl⟩ hrec
  unfold pX9_laws_B14
  rw [show (4 : Int32) = nI 4 from rfl, nI_leI (by omega) (by omega)]
  refine br_c (fun c => ?_) (fun c => ⟨vp_in_nI (by omega) (by omega), ?_⟩)
  · have e : p = 4 := by omega
    subst e; exact k g
  rw [nI_clamp (by omega), hfi]
  refine s_isSo hT hfp hfh hE hs hi (hh.2.1 i hi) (by omega) (fun way => ?_)
  have hb := fo_s (btS (fun kd => agN T m E i (h 1 i) kd)) p 0
  by_cases c2 : agN T m E i (h 1 i) p = true
  · rw [if_pos c2]
    refine ⟨fun q => absurd q (by decide), fun _ => ?_⟩
    rw [nI_1]
    exact hrec _ _ _ ⟨p + 1, by omega, rfl, by rw [hb, btS, if_pos c2]⟩ (by rw [nI_clamp (by omega), nI_clamp (by omega)]; omega)
  · rw [if_neg c2]
    refine ⟨fun _ => ?_, fun q => absurd rfl q⟩
    rw [nI_1, Int32.or_zero]
    exact hrec _ _ _ ⟨p + 1, by omega, rfl, by rw [hb, btS, if_neg c2]⟩ (by rw [nI_clamp (by omega), nI_clamp (by omega)]; omega)
theorem st_N {T : Nat → Nat → Nat} (hT : tok T) (m : Nat) (E : Nat → Nat → Nat) (i : Nat) : ∃ b, b < 512 ∧ stB T m E i = nI b := by
  obtain ⟨b, hb, e⟩ := bt_N (fun p => agN T m E i p (T 7 i)) (T 0 0) (by have := hT.2.1; omega)
  have h2 : 2 ^ T 0 0 ≤ 2 ^ 9 := Nat.pow_le_pow_right (by omega) hT.2.1
  exact ⟨b, by omega, e⟩
theorem s_sureM {T : Nat → Nat → Nat} {i b : Nat} {fp fk fh nw0 th0 tn0 : Nat → Int32} {way : Int32} {K1 : Int32 → Int32 → (Nat → Int32) → (Nat → Int32) → (Nat → Int32) → Prop} {K2 : Int32 → (Nat → Int32) → (Nat → Int32) → (Nat → Int32) → Prop} (hT : tok T) (hfp : fp 0 = nI (T 0 0)) (hfh : ∀ k, k < T 0 0 → fh k = nI (T 4 k)) (hfk : fk i = nI (T 7 i)) (hi : i < T 1 0) (hb : b < 512)
    (h1 : suD T (T 7 i) b < 40 → zN T (T 7 i) b (suD T (T 7 i) b + 1) 0 ≠ 0 → ∀ way nw th tn, nw 0 = nI (zN T (T 7 i) b (suD T (T 7 i) b + 1) 0) → K1 (nI (suD T (T 7 i) b + 1)) way nw th tn)
    (h2 : suD T (T 7 i) b = 40 → ∀ way nw th tn, K2 way nw th tn) : ∃ n_ : Nat, it2 (pX9_sure_B44 (nI b) (fun nw => ∃ n_ : Nat, it5 (pX9_sure_B79 (nI i) fp fk fh K1 K2) n_ 1 way nw th0 tn0)) n_ 0 nw0 := by
  refine it2_rule (fun y g => ∃ p, p ≤ 512 ∧ y = nI p ∧ ∀ k, k < p → g k = nI (if k = b then 1 else 0)) (fun y _ => 513 - y.toNatClampNeg) ?_ _ _ ⟨0, by omega, rfl, fun k hk => by omega⟩
  rintro rec y g ⟨p, hp, rfl, hg⟩ hrec
  unfold pX9_sure_B44
  rw [show (512 : Int32) = nI 512 from rfl, nI_leI (by omega) (by omega)]
  refine br_c (fun c => ?_) (fun c => ?_)
  · have e : p = 512 := by omega
    subst e
    refine it5_rule (fun y _ nw _ _ => ∃ d, d ≤ 40 ∧ y = nI (d + 1) ∧ (∀ e, e < d → zN T (T 7 i) b (e + 1) 0 = 0) ∧ ∀ k, k < 512 → nw k = nI (zN T (T 7 i) b d k)) (fun y _ _ _ _ => 42 - y.toNatClampNeg) ?_ _ _ _ _ _ ⟨0, by omega, rfl, fun e he => by omega, hg⟩
    rintro rec y way nw th tn ⟨d, hd, rfl, hno, hnw⟩ hrec
    unfold pX9_sure_B79
    rw [show (40 : Int32) = nI 40 from rfl, nI_ltI (by omega) (by omega)]
    refine br_c (fun c => ?_) (fun c => ?_)
    · have e : d = 40 := by omega
      subst e
      exact h2 (ff_none (fun e he => by rw [hno e he]; rfl)) _ _ _ _
    · refine s_layThere hT hfp hfh hfk hi (by omega) (by omega) (fun way M hM => ?_)
      refine s_goSets hT hfp (by omega) (by omega) hM hnw (zN_bd hT d) (fun t n hn => ?_)
      have e0 : n 0 = nI (zN T (T 7 i) b (d + 1) 0) := hn 0 (by omega)
      have hz := zN_bd (b := b) (kd := T 7 i) hT (d + 1) 0
      rw [show (0 : Int32).toNatClampNeg = 0 from rfl, e0, show (0 : Int32) = nI 0 from rfl, nI_leI (by omega) (by omega)]
      refine br_c (fun c => ?_) (fun c => ?_)
      · rw [nI_1]
        refine hrec _ _ _ _ _ ⟨d + 1, by omega, rfl, fun e he => ?_, hn⟩ (by rw [nI_clamp (by omega), nI_clamp (by omega)]; omega)
        by_cases q : e < d
        · exact hno e q
        · have : e = d := by omega
          subst this; omega
      · have e : suD T (T 7 i) b = d := ff_eq (by omega) (fun e he => by rw [hno e he]; rfl) (decide_eq_true (by omega))
        rw [e] at h1
        exact h1 (by omega) (by omega) _ _ _ _ e0
  · have v : vp_in (nI p) 512 := vp_in_nI (by omega) (by omega)
    have hm : 513 - (nI (p + 1)).toNatClampNeg < 513 - (nI p).toNatClampNeg := by rw [nI_clamp (by omega), nI_clamp (by omega)]; omega
    rw [nI_eq (by omega) (by omega), nI_clamp (by omega)]
    refine ⟨fun c2 => ⟨v, ?_⟩, fun c2 => ⟨v, ?_⟩⟩
    all_goals
      rw [nI_1]
      refine hrec _ _ ⟨p + 1, by omega, rfl, fun k hk => ?_⟩ hm
      by_cases q : k = p
      · subst q; rw [pk_us]
        first | rw [if_pos c2] | rw [if_neg c2]
        first | rfl | (rw [← nI_1])
      · rw [pk_un q]; exact hg k (by omega)
set_option maxHeartbeats 4000000 in
set_option maxRecDepth 100000 in
theorem law_gone {c_text_length : Int32} {cf_text_bytes : Nat → Int32} {c_town_places : Int32} {c_town_skins : Int32} {c_town_smoke : Int32} {c_town_tide : Int32} {cf_town_house : Nat → Int32} {cf_town_view : Nat → Int32} {cf_town_girth : Nat → Int32} {cf_town_kind : Nat → Int32} {c_town_hiding_looks : Int32} {cf_town_hiding_start : Nat → Int32} {cf_town_hiding_looker : Nat → Int32} {cf_town_hiding_lookPlace : Nat → Int32} {cf_town_hiding_lookDay : Nat → Int32} {cf_course_finder : Nat → Int32} {cf_course_prize : Nat → Int32} {cf_course_prizeDay : Nat → Int32} {cB_course_path : Nat → Nat → Int32} {c_sightings_held : Int32} {cf_sightings_skinSeen : Nat → Int32} {cf_sightings_placeSeen : Nat → Int32} {cf_sightings_daySeen : Nat → Int32} {cf_sightings_wasThere : Nat → Int32} {c_changes_held : Int32} {cf_changes_skinHidden : Nat → Int32} {cf_changes_former : Nat → Int32} {c_shelf_held : Int32} {c_shelf_rows_e0_looks : Int32} {cf_shelf_rows_e0_start : Nat → Int32} {cf_shelf_rows_e0_looker : Nat → Int32} {cf_shelf_rows_e0_lookPlace : Nat → Int32} {cf_shelf_rows_e0_lookDay : Nat → Int32} {c_shelf_rows_e1_looks : Int32} {cf_shelf_rows_e1_start : Nat → Int32} {cf_shelf_rows_e1_looker : Nat → Int32} {cf_shelf_rows_e1_lookPlace : Nat → Int32} {cf_shelf_rows_e1_lookDay : Nat → Int32} {m_length : Int32} {mf_text : Nat → Int32} {mf_places : Nat → Int32} {mf_houses : Nat → Int32} {mf_sights : Nat → Int32} {mf_many : Nat → Int32} {mf_sizes : Nat → Int32} {mf_kinds : Nat → Int32} {mf_smoke : Nat → Int32} {mf_tide : Nat → Int32} {mf_firsts : Nat → Int32} {mf_looks : Nat → Int32} {mf_lookOf : Nat → Int32} {mf_lookAt : Nat → Int32} {mf_lookOn : Nat → Int32} {m_keptMany : Int32} {m_undoMany : Int32} {mf_undos : Nat → Int32} {m_seenMany : Int32} {mf_seenOf : Nat → Int32} {mf_seenAt : Nat → Int32} {mf_seenOn : Nat → Int32} {mf_seenThere : Nat → Int32} {m_way : Int32} {mf_foundBy : Nat → Int32} {mf_hers : Nat → Int32} {mf_when : Nat → Int32} (hI : PInv c_text_length cf_text_bytes c_town_places c_town_skins c_town_smoke c_town_tide cf_town_house cf_town_view cf_town_girth cf_town_kind c_town_hiding_looks cf_town_hiding_start cf_town_hiding_looker cf_town_hiding_lookPlace cf_town_hiding_lookDay cf_course_finder cf_course_prize cf_course_prizeDay cB_course_path c_sightings_held cf_sightings_skinSeen cf_sightings_placeSeen cf_sightings_daySeen cf_sightings_wasThere c_changes_held cf_changes_skinHidden cf_changes_former c_shelf_held c_shelf_rows_e0_looks cf_shelf_rows_e0_start cf_shelf_rows_e0_looker cf_shelf_rows_e0_lookPlace cf_shelf_rows_e0_lookDay c_shelf_rows_e1_looks cf_shelf_rows_e1_start cf_shelf_rows_e1_looker cf_shelf_rows_e1_lookPlace cf_shelf_rows_e1_lookDay m_length mf_text mf_places mf_houses mf_sights mf_many mf_sizes mf_kinds mf_smoke mf_tide mf_firsts mf_looks mf_lookOf mf_lookAt mf_lookOn m_keptMany m_undoMany mf_undos m_seenMany mf_seenOf mf_seenAt mf_seenOn mf_seenThere) (x1 : Int32) : pX8_gone c_town_skins c_town_tide cf_course_prizeDay x1 (fun (r : Int32)  => pX9_gone m_way mf_foundBy mf_hers mf_when mf_looks mf_lookOn mf_lookOf mf_many mf_firsts mf_kinds mf_places mf_houses mf_lookAt mf_sizes mf_smoke mf_tide x1 (fun (r2 : Int32) (p1 : Int32) (p2 : Nat → Int32) (p3 : Nat → Int32) (p4 : Nat → Int32) => r = r2 ∧ PInv c_text_length cf_text_bytes c_town_places c_town_skins c_town_smoke c_town_tide cf_town_house cf_town_view cf_town_girth cf_town_kind c_town_hiding_looks cf_town_hiding_start cf_town_hiding_looker cf_town_hiding_lookPlace cf_town_hiding_lookDay cf_course_finder cf_course_prize cf_course_prizeDay cB_course_path c_sightings_held cf_sightings_skinSeen cf_sightings_placeSeen cf_sightings_daySeen cf_sightings_wasThere c_changes_held cf_changes_skinHidden cf_changes_former c_shelf_held c_shelf_rows_e0_looks cf_shelf_rows_e0_start cf_shelf_rows_e0_looker cf_shelf_rows_e0_lookPlace cf_shelf_rows_e0_lookDay c_shelf_rows_e1_looks cf_shelf_rows_e1_start cf_shelf_rows_e1_looker cf_shelf_rows_e1_lookPlace cf_shelf_rows_e1_lookDay m_length mf_text mf_places mf_houses mf_sights mf_many mf_sizes mf_kinds mf_smoke mf_tide mf_firsts mf_looks mf_lookOf mf_lookAt mf_lookOn m_keptMany m_undoMany mf_undos m_seenMany mf_seenOf mf_seenAt mf_seenOn mf_seenThere)) := by
  obtain ⟨tx, n, T, h, m, E, u, U, kc, G, i1, i2, i3, i4, i5, i6, i7⟩ := hI
  have fin : PInv _ _ _ _ _ _ _ _ _ _ _ _ _ _ _ _ _ _ _ _ _ _ _ _ _ _ _ _ _ _ _ _ _ _ _ _ _ _ _ _ _ _ _ _ _ _ _ _ _ _ _ _ _ _ _ _ _ _ _ _ _ := ⟨tx, n, T, h, m, E, u, U, kc, G, i1, i2, i3, i4, i5, i6, i7⟩
  obtain ⟨hT, rfl, rfl, rfl, rfl, hw, hv, hm, hfs, hft⟩ := i2
  obtain ⟨hh, rfl, hst, hl, hmh⟩ := i3
  obtain ⟨he, hB⟩ := i4
  obtain ⟨t1, t2, t3, t4, t5, t6, t7, t8, t9⟩ := id hT
  obtain ⟨m1, m2, m3, m4, m5⟩ := id hm
  obtain ⟨l1, l2, l3⟩ := id hmh
  have hcs := csok_crs hT hh
  have z0 : (0 : Int32).toNatClampNeg = 0 := rfl
  unfold pX8_gone pX9_gone
  have e1 : (1 : Int64).toInt = 1 := by decide
  have e2 : (80 : Int64).toInt = 80 := by decide
  have e3 : (1 : Int32).toInt = 1 := by decide
  have e4 : (80 : Int32).toInt = 80 := by decide
  refine ⟨fun c => ?_, fun c => ⟨fun c2 => ?_, fun c2 => ?_⟩⟩
  · rw [Int32.lt_iff_toInt_lt, e3] at c
    refine s_in (fun q1 _ => absurd q1 (by rw [t64, e1]; omega)) (fun _ => ⟨fun q => absurd rfl q, fun _ => ⟨rfl, fin⟩⟩)
  · rw [Int32.lt_iff_toInt_lt, e3] at c
    rw [Int32.le_iff_toInt_le, e4] at c2
    obtain ⟨d, hd1, hd2, rfl⟩ : ∃ d, 1 ≤ d ∧ d ≤ 80 ∧ x1 = nI d := ⟨x1.toInt.toNat, by omega, by omega, by apply Int32.toInt_inj.mp; rw [nI_toInt (by omega)]; omega⟩
    refine s_leaversBy t4 t6 t7 hcs he ?_
    refine s_in (fun _ _ => ⟨fun _ => s_goAll hT hh hm hmh (fun way F H W he2 => s_goneBy t4 m3 t6 t7 hft (by omega) hcs he2 ⟨rfl, fin⟩), fun q => absurd q (by decide)⟩) (fun q => absurd ?_ q)
    rw [t64, e1, e2, nI_toInt (by omega)]; omega
  · rw [Int32.le_iff_toInt_le, e4] at c2
    refine s_in (fun _ q2 => absurd q2 (by rw [t64, e2]; omega)) (fun _ => ⟨fun q => absurd rfl q, fun _ => ⟨rfl, fin⟩⟩)
set_option maxHeartbeats 4000000 in
set_option maxRecDepth 100000 in
theorem law_fits {c_text_length : Int32} {cf_text_bytes : Nat → Int32} {c_town_places : Int32} {c_town_skins : Int32} {c_town_smoke : Int32} {c_town_tide : Int32} {cf_town_house : Nat → Int32} {cf_town_view : Nat → Int32} {cf_town_girth : Nat → Int32} {cf_town_kind : Nat → Int32} {c_town_hiding_looks : Int32} {cf_town_hiding_start : Nat → Int32} {cf_town_hiding_looker : Nat → Int32} {cf_town_hiding_lookPlace : Nat → Int32} {cf_town_hiding_lookDay : Nat → Int32} {cf_course_finder : Nat → Int32} {cf_course_prize : Nat → Int32} {cf_course_prizeDay : Nat → Int32} {cB_course_path : Nat → Nat → Int32} {c_sightings_held : Int32} {cf_sightings_skinSeen : Nat → Int32} {cf_sightings_placeSeen : Nat → Int32} {cf_sightings_daySeen : Nat → Int32} {cf_sightings_wasThere : Nat → Int32} {c_changes_held : Int32} {cf_changes_skinHidden : Nat → Int32} {cf_changes_former : Nat → Int32} {c_shelf_held : Int32} {c_shelf_rows_e0_looks : Int32} {cf_shelf_rows_e0_start : Nat → Int32} {cf_shelf_rows_e0_looker : Nat → Int32} {cf_shelf_rows_e0_lookPlace : Nat → Int32} {cf_shelf_rows_e0_lookDay : Nat → Int32} {c_shelf_rows_e1_looks : Int32} {cf_shelf_rows_e1_start : Nat → Int32} {cf_shelf_rows_e1_looker : Nat → Int32} {cf_shelf_rows_e1_lookPlace : Nat → Int32} {cf_shelf_rows_e1_lookDay : Nat → Int32} {m_length : Int32} {mf_text : Nat → Int32} {mf_places : Nat → Int32} {mf_houses : Nat → Int32} {mf_sights : Nat → Int32} {mf_many : Nat → Int32} {mf_sizes : Nat → Int32} {mf_kinds : Nat → Int32} {mf_smoke : Nat → Int32} {mf_tide : Nat → Int32} {mf_firsts : Nat → Int32} {mf_looks : Nat → Int32} {mf_lookOf : Nat → Int32} {mf_lookAt : Nat → Int32} {mf_lookOn : Nat → Int32} {m_keptMany : Int32} {m_undoMany : Int32} {mf_undos : Nat → Int32} {m_seenMany : Int32} {mf_seenOf : Nat → Int32} {mf_seenAt : Nat → Int32} {mf_seenOn : Nat → Int32} {mf_seenThere : Nat → Int32} (hI : PInv c_text_length cf_text_bytes c_town_places c_town_skins c_town_smoke c_town_tide cf_town_house cf_town_view cf_town_girth cf_town_kind c_town_hiding_looks cf_town_hiding_start cf_town_hiding_looker cf_town_hiding_lookPlace cf_town_hiding_lookDay cf_course_finder cf_course_prize cf_course_prizeDay cB_course_path c_sightings_held cf_sightings_skinSeen cf_sightings_placeSeen cf_sightings_daySeen cf_sightings_wasThere c_changes_held cf_changes_skinHidden cf_changes_former c_shelf_held c_shelf_rows_e0_looks cf_shelf_rows_e0_start cf_shelf_rows_e0_looker cf_shelf_rows_e0_lookPlace cf_shelf_rows_e0_lookDay c_shelf_rows_e1_looks cf_shelf_rows_e1_start cf_shelf_rows_e1_looker cf_shelf_rows_e1_lookPlace cf_shelf_rows_e1_lookDay m_length mf_text mf_places mf_houses mf_sights mf_many mf_sizes mf_kinds mf_smoke mf_tide mf_firsts mf_looks mf_lookOf mf_lookAt mf_lookOn m_keptMany m_undoMany mf_undos m_seenMany mf_seenOf mf_seenAt mf_seenOn mf_seenThere) (x1 : Int32) (x2 : Int32) : pX8_fits c_town_skins c_town_smoke cf_town_girth x1 x2 (fun (r : Int32)  => pX9_fits mf_many mf_sizes mf_smoke x1 x2 (fun (r2 : Int32)  => r = r2 ∧ PInv c_text_length cf_text_bytes c_town_places c_town_skins c_town_smoke c_town_tide cf_town_house cf_town_view cf_town_girth cf_town_kind c_town_hiding_looks cf_town_hiding_start cf_town_hiding_looker cf_town_hiding_lookPlace cf_town_hiding_lookDay cf_course_finder cf_course_prize cf_course_prizeDay cB_course_path c_sightings_held cf_sightings_skinSeen cf_sightings_placeSeen cf_sightings_daySeen cf_sightings_wasThere c_changes_held cf_changes_skinHidden cf_changes_former c_shelf_held c_shelf_rows_e0_looks cf_shelf_rows_e0_start cf_shelf_rows_e0_looker cf_shelf_rows_e0_lookPlace cf_shelf_rows_e0_lookDay c_shelf_rows_e1_looks cf_shelf_rows_e1_start cf_shelf_rows_e1_looker cf_shelf_rows_e1_lookPlace cf_shelf_rows_e1_lookDay m_length mf_text mf_places mf_houses mf_sights mf_many mf_sizes mf_kinds mf_smoke mf_tide mf_firsts mf_looks mf_lookOf mf_lookAt mf_lookOn m_keptMany m_undoMany mf_undos m_seenMany mf_seenOf mf_seenAt mf_seenOn mf_seenThere)) := by
  obtain ⟨tx, n, T, h, m, E, u, U, kc, G, i1, i2, i3, i4, i5, i6, i7⟩ := hI
  have fin : PInv _ _ _ _ _ _ _ _ _ _ _ _ _ _ _ _ _ _ _ _ _ _ _ _ _ _ _ _ _ _ _ _ _ _ _ _ _ _ _ _ _ _ _ _ _ _ _ _ _ _ _ _ _ _ _ _ _ _ _ _ _ := ⟨tx, n, T, h, m, E, u, U, kc, G, i1, i2, i3, i4, i5, i6, i7⟩
  obtain ⟨hT, rfl, rfl, rfl, rfl, hw, hv, hm, hfs, hft⟩ := i2
  obtain ⟨hh, rfl, hst, hl, hmh⟩ := i3
  obtain ⟨he, hB⟩ := i4
  obtain ⟨t1, t2, t3, t4, t5, t6, t7, t8, t9⟩ := id hT
  obtain ⟨m1, m2, m3, m4, m5⟩ := id hm
  obtain ⟨l1, l2, l3⟩ := id hmh
  have hcs := csok_crs hT hh
  have z0 : (0 : Int32).toNatClampNeg = 0 := rfl
  unfold pX8_fits pX9_fits
  refine s_hasSkin (by omega) (fun hx => ⟨fun q => absurd q (by decide), fun _ => ?_⟩) (fun hx => ⟨fun _ => ?_, fun q => absurd rfl q⟩)
  · obtain ⟨a, ha, rfl⟩ := hx
    refine s_isDay (fun hd => ⟨fun _ => ?_, fun q => absurd q (by decide)⟩) (fun hd => ⟨fun q => absurd rfl q, fun _ => ?_⟩)
    · obtain ⟨d, d1, d2, rfl⟩ := hd
      refine s_fitsC hT (fun k hk => (hw.2 k hk).1) ha (by omega) ?_
      refine s_isSkin (by omega) m3 (fun _ => ⟨fun q => absurd q (by decide), fun _ => ?_⟩) (fun q => absurd ⟨a, ha, rfl⟩ q)
      refine s_mIsDay (fun _ => ⟨fun _ => ?_, fun q => absurd q (by decide)⟩) (fun q => absurd ⟨d, d1, d2, rfl⟩ q)
      exact s_fitsM hT m3 m5 (fun k hk => (m4 k hk).1) ha (by omega) ⟨rfl, fin⟩
    · refine s_isSkin (by omega) m3 (fun _ => ⟨fun q => absurd q (by decide), fun _ => ?_⟩) (fun q => absurd ⟨a, ha, rfl⟩ q)
      refine s_mIsDay (fun q => absurd q hd) (fun _ => ⟨fun q => absurd rfl q, fun _ => ⟨rfl, fin⟩⟩)
  · exact s_isSkin (by omega) m3 (fun q => absurd q hx) (fun _ => ⟨fun _ => ⟨rfl, fin⟩, fun q => absurd rfl q⟩)
set_option maxHeartbeats 4000000 in
set_option maxRecDepth 100000 in
theorem law_starts {c_text_length : Int32} {cf_text_bytes : Nat → Int32} {c_town_places : Int32} {c_town_skins : Int32} {c_town_smoke : Int32} {c_town_tide : Int32} {cf_town_house : Nat → Int32} {cf_town_view : Nat → Int32} {cf_town_girth : Nat → Int32} {cf_town_kind : Nat → Int32} {c_town_hiding_looks : Int32} {cf_town_hiding_start : Nat → Int32} {cf_town_hiding_looker : Nat → Int32} {cf_town_hiding_lookPlace : Nat → Int32} {cf_town_hiding_lookDay : Nat → Int32} {cf_course_finder : Nat → Int32} {cf_course_prize : Nat → Int32} {cf_course_prizeDay : Nat → Int32} {cB_course_path : Nat → Nat → Int32} {c_sightings_held : Int32} {cf_sightings_skinSeen : Nat → Int32} {cf_sightings_placeSeen : Nat → Int32} {cf_sightings_daySeen : Nat → Int32} {cf_sightings_wasThere : Nat → Int32} {c_changes_held : Int32} {cf_changes_skinHidden : Nat → Int32} {cf_changes_former : Nat → Int32} {c_shelf_held : Int32} {c_shelf_rows_e0_looks : Int32} {cf_shelf_rows_e0_start : Nat → Int32} {cf_shelf_rows_e0_looker : Nat → Int32} {cf_shelf_rows_e0_lookPlace : Nat → Int32} {cf_shelf_rows_e0_lookDay : Nat → Int32} {c_shelf_rows_e1_looks : Int32} {cf_shelf_rows_e1_start : Nat → Int32} {cf_shelf_rows_e1_looker : Nat → Int32} {cf_shelf_rows_e1_lookPlace : Nat → Int32} {cf_shelf_rows_e1_lookDay : Nat → Int32} {m_length : Int32} {mf_text : Nat → Int32} {mf_places : Nat → Int32} {mf_houses : Nat → Int32} {mf_sights : Nat → Int32} {mf_many : Nat → Int32} {mf_sizes : Nat → Int32} {mf_kinds : Nat → Int32} {mf_smoke : Nat → Int32} {mf_tide : Nat → Int32} {mf_firsts : Nat → Int32} {mf_looks : Nat → Int32} {mf_lookOf : Nat → Int32} {mf_lookAt : Nat → Int32} {mf_lookOn : Nat → Int32} {m_keptMany : Int32} {m_undoMany : Int32} {mf_undos : Nat → Int32} {m_seenMany : Int32} {mf_seenOf : Nat → Int32} {mf_seenAt : Nat → Int32} {mf_seenOn : Nat → Int32} {mf_seenThere : Nat → Int32} {cf_sightings_path : Nat → Int32} {m_way : Int32} (hI : PInv c_text_length cf_text_bytes c_town_places c_town_skins c_town_smoke c_town_tide cf_town_house cf_town_view cf_town_girth cf_town_kind c_town_hiding_looks cf_town_hiding_start cf_town_hiding_looker cf_town_hiding_lookPlace cf_town_hiding_lookDay cf_course_finder cf_course_prize cf_course_prizeDay cB_course_path c_sightings_held cf_sightings_skinSeen cf_sightings_placeSeen cf_sightings_daySeen cf_sightings_wasThere c_changes_held cf_changes_skinHidden cf_changes_former c_shelf_held c_shelf_rows_e0_looks cf_shelf_rows_e0_start cf_shelf_rows_e0_looker cf_shelf_rows_e0_lookPlace cf_shelf_rows_e0_lookDay c_shelf_rows_e1_looks cf_shelf_rows_e1_start cf_shelf_rows_e1_looker cf_shelf_rows_e1_lookPlace cf_shelf_rows_e1_lookDay m_length mf_text mf_places mf_houses mf_sights mf_many mf_sizes mf_kinds mf_smoke mf_tide mf_firsts mf_looks mf_lookOf mf_lookAt mf_lookOn m_keptMany m_undoMany mf_undos m_seenMany mf_seenOf mf_seenAt mf_seenOn mf_seenThere) (x1 : Int32) : pX8_starts c_town_places c_town_skins cf_town_kind c_sightings_held cf_sightings_path cf_town_house cf_sightings_skinSeen cf_sightings_daySeen cf_sightings_placeSeen cf_sightings_wasThere x1 (fun (r : Int32) (o1 : Nat → Int32) => pX9_starts m_seenMany m_way mf_many mf_places mf_kinds mf_seenOf mf_seenOn mf_houses mf_seenAt mf_seenThere x1 (fun (r2 : Int32) (p1 : Int32) => r = r2 ∧ PInv c_text_length cf_text_bytes c_town_places c_town_skins c_town_smoke c_town_tide cf_town_house cf_town_view cf_town_girth cf_town_kind c_town_hiding_looks cf_town_hiding_start cf_town_hiding_looker cf_town_hiding_lookPlace cf_town_hiding_lookDay cf_course_finder cf_course_prize cf_course_prizeDay cB_course_path c_sightings_held cf_sightings_skinSeen cf_sightings_placeSeen cf_sightings_daySeen cf_sightings_wasThere c_changes_held cf_changes_skinHidden cf_changes_former c_shelf_held c_shelf_rows_e0_looks cf_shelf_rows_e0_start cf_shelf_rows_e0_looker cf_shelf_rows_e0_lookPlace cf_shelf_rows_e0_lookDay c_shelf_rows_e1_looks cf_shelf_rows_e1_start cf_shelf_rows_e1_looker cf_shelf_rows_e1_lookPlace cf_shelf_rows_e1_lookDay m_length mf_text mf_places mf_houses mf_sights mf_many mf_sizes mf_kinds mf_smoke mf_tide mf_firsts mf_looks mf_lookOf mf_lookAt mf_lookOn m_keptMany m_undoMany mf_undos m_seenMany mf_seenOf mf_seenAt mf_seenOn mf_seenThere)) := by
  obtain ⟨tx, n, T, h, m, E, u, U, kc, G, i1, i2, i3, i4, i5, i6, i7⟩ := hI
  have fin : PInv _ _ _ _ _ _ _ _ _ _ _ _ _ _ _ _ _ _ _ _ _ _ _ _ _ _ _ _ _ _ _ _ _ _ _ _ _ _ _ _ _ _ _ _ _ _ _ _ _ _ _ _ _ _ _ _ _ _ _ _ _ := ⟨tx, n, T, h, m, E, u, U, kc, G, i1, i2, i3, i4, i5, i6, i7⟩
  obtain ⟨hT, rfl, rfl, rfl, rfl, hw, hv, hm, hfs, hft⟩ := i2
  obtain ⟨hh, rfl, hst, hl, hmh⟩ := i3
  obtain ⟨he, hB⟩ := i4
  obtain ⟨t1, t2, t3, t4, t5, t6, t7, t8, t9⟩ := id hT
  obtain ⟨m1, m2, m3, m4, m5⟩ := id hm
  obtain ⟨l1, l2, l3⟩ := id hmh
  have hcs := csok_crs hT hh
  have z0 : (0 : Int32).toNatClampNeg = 0 := rfl
  obtain ⟨hE, rfl, hs, rfl, hs2⟩ := i5
  unfold pX8_starts pX9_starts
  refine s_hasSkin (by omega) (fun hx => ⟨fun q => absurd q (by decide), fun _ => ?_⟩) (fun hx => ⟨fun _ => ?_, fun q => absurd rfl q⟩)
  · obtain ⟨a, ha, rfl⟩ := hx
    refine s_possibleStarts hT hw hE hs ha (fun g => ?_)
    refine s_isSkin (by omega) m3 (fun _ => ⟨fun q => absurd q (by decide), fun _ => ?_⟩) (fun q => absurd ⟨a, ha, rfl⟩ q)
    exact s_startsOf hT m1 m2 (fun i hi => (m4 i hi).2) hE hs2 ha (fun way => ⟨rfl, fin⟩)
  · exact s_isSkin (by omega) m3 (fun q => absurd q hx) (fun _ => ⟨fun _ => ⟨rfl, fin⟩, fun q => absurd rfl q⟩)
set_option maxHeartbeats 4000000 in
set_option maxRecDepth 100000 in
theorem law_laws {c_text_length : Int32} {cf_text_bytes : Nat → Int32} {c_town_places : Int32} {c_town_skins : Int32} {c_town_smoke : Int32} {c_town_tide : Int32} {cf_town_house : Nat → Int32} {cf_town_view : Nat → Int32} {cf_town_girth : Nat → Int32} {cf_town_kind : Nat → Int32} {c_town_hiding_looks : Int32} {cf_town_hiding_start : Nat → Int32} {cf_town_hiding_looker : Nat → Int32} {cf_town_hiding_lookPlace : Nat → Int32} {cf_town_hiding_lookDay : Nat → Int32} {cf_course_finder : Nat → Int32} {cf_course_prize : Nat → Int32} {cf_course_prizeDay : Nat → Int32} {cB_course_path : Nat → Nat → Int32} {c_sightings_held : Int32} {cf_sightings_skinSeen : Nat → Int32} {cf_sightings_placeSeen : Nat → Int32} {cf_sightings_daySeen : Nat → Int32} {cf_sightings_wasThere : Nat → Int32} {c_changes_held : Int32} {cf_changes_skinHidden : Nat → Int32} {cf_changes_former : Nat → Int32} {c_shelf_held : Int32} {c_shelf_rows_e0_looks : Int32} {cf_shelf_rows_e0_start : Nat → Int32} {cf_shelf_rows_e0_looker : Nat → Int32} {cf_shelf_rows_e0_lookPlace : Nat → Int32} {cf_shelf_rows_e0_lookDay : Nat → Int32} {c_shelf_rows_e1_looks : Int32} {cf_shelf_rows_e1_start : Nat → Int32} {cf_shelf_rows_e1_looker : Nat → Int32} {cf_shelf_rows_e1_lookPlace : Nat → Int32} {cf_shelf_rows_e1_lookDay : Nat → Int32} {m_length : Int32} {mf_text : Nat → Int32} {mf_places : Nat → Int32} {mf_houses : Nat → Int32} {mf_sights : Nat → Int32} {mf_many : Nat → Int32} {mf_sizes : Nat → Int32} {mf_kinds : Nat → Int32} {mf_smoke : Nat → Int32} {mf_tide : Nat → Int32} {mf_firsts : Nat → Int32} {mf_looks : Nat → Int32} {mf_lookOf : Nat → Int32} {mf_lookAt : Nat → Int32} {mf_lookOn : Nat → Int32} {m_keptMany : Int32} {m_undoMany : Int32} {mf_undos : Nat → Int32} {m_seenMany : Int32} {mf_seenOf : Nat → Int32} {mf_seenAt : Nat → Int32} {mf_seenOn : Nat → Int32} {mf_seenThere : Nat → Int32} {cf_sightings_path : Nat → Int32} {m_way : Int32} (hI : PInv c_text_length cf_text_bytes c_town_places c_town_skins c_town_smoke c_town_tide cf_town_house cf_town_view cf_town_girth cf_town_kind c_town_hiding_looks cf_town_hiding_start cf_town_hiding_looker cf_town_hiding_lookPlace cf_town_hiding_lookDay cf_course_finder cf_course_prize cf_course_prizeDay cB_course_path c_sightings_held cf_sightings_skinSeen cf_sightings_placeSeen cf_sightings_daySeen cf_sightings_wasThere c_changes_held cf_changes_skinHidden cf_changes_former c_shelf_held c_shelf_rows_e0_looks cf_shelf_rows_e0_start cf_shelf_rows_e0_looker cf_shelf_rows_e0_lookPlace cf_shelf_rows_e0_lookDay c_shelf_rows_e1_looks cf_shelf_rows_e1_start cf_shelf_rows_e1_looker cf_shelf_rows_e1_lookPlace cf_shelf_rows_e1_lookDay m_length mf_text mf_places mf_houses mf_sights mf_many mf_sizes mf_kinds mf_smoke mf_tide mf_firsts mf_looks mf_lookOf mf_lookAt mf_lookOn m_keptMany m_undoMany mf_undos m_seenMany mf_seenOf mf_seenAt mf_seenOn mf_seenThere) (x1 : Int32) : pX8_laws c_town_places c_town_skins cf_town_hiding_start c_sightings_held cf_sightings_path cf_town_house cf_sightings_skinSeen cf_sightings_daySeen cf_sightings_placeSeen cf_sightings_wasThere x1 (fun (r : Int32) (o1 : Nat → Int32) => pX9_laws m_seenMany m_way mf_many mf_firsts mf_seenOf mf_seenOn mf_places mf_houses mf_seenAt mf_seenThere x1 (fun (r2 : Int32) (p1 : Int32) => r = r2 ∧ PInv c_text_length cf_text_bytes c_town_places c_town_skins c_town_smoke c_town_tide cf_town_house cf_town_view cf_town_girth cf_town_kind c_town_hiding_looks cf_town_hiding_start cf_town_hiding_looker cf_town_hiding_lookPlace cf_town_hiding_lookDay cf_course_finder cf_course_prize cf_course_prizeDay cB_course_path c_sightings_held cf_sightings_skinSeen cf_sightings_placeSeen cf_sightings_daySeen cf_sightings_wasThere c_changes_held cf_changes_skinHidden cf_changes_former c_shelf_held c_shelf_rows_e0_looks cf_shelf_rows_e0_start cf_shelf_rows_e0_looker cf_shelf_rows_e0_lookPlace cf_shelf_rows_e0_lookDay c_shelf_rows_e1_looks cf_shelf_rows_e1_start cf_shelf_rows_e1_looker cf_shelf_rows_e1_lookPlace cf_shelf_rows_e1_lookDay m_length mf_text mf_places mf_houses mf_sights mf_many mf_sizes mf_kinds mf_smoke mf_tide mf_firsts mf_looks mf_lookOf mf_lookAt mf_lookOn m_keptMany m_undoMany mf_undos m_seenMany mf_seenOf mf_seenAt mf_seenOn mf_seenThere)) := by
  obtain ⟨tx, n, T, h, m, E, u, U, kc, G, i1, i2, i3, i4, i5, i6, i7⟩ := hI
  have fin : PInv _ _ _ _ _ _ _ _ _ _ _ _ _ _ _ _ _ _ _ _ _ _ _ _ _ _ _ _ _ _ _ _ _ _ _ _ _ _ _ _ _ _ _ _ _ _ _ _ _ _ _ _ _ _ _ _ _ _ _ _ _ := ⟨tx, n, T, h, m, E, u, U, kc, G, i1, i2, i3, i4, i5, i6, i7⟩
  obtain ⟨hT, rfl, rfl, rfl, rfl, hw, hv, hm, hfs, hft⟩ := i2
  obtain ⟨hh, rfl, hst, hl, hmh⟩ := i3
  obtain ⟨he, hB⟩ := i4
  obtain ⟨t1, t2, t3, t4, t5, t6, t7, t8, t9⟩ := id hT
  obtain ⟨m1, m2, m3, m4, m5⟩ := id hm
  obtain ⟨l1, l2, l3⟩ := id hmh
  have hcs := csok_crs hT hh
  have z0 : (0 : Int32).toNatClampNeg = 0 := rfl
  obtain ⟨hE, rfl, hs, rfl, hs2⟩ := i5
  unfold pX9_laws
  refine s_laws (i := 0) hT hh hw hst hE hs (fun hx => ?_) (fun a g ha hx => ?_)
  · exact s_isSkin (by omega) m3 (fun q => absurd q hx) (fun _ => ⟨fun q => absurd rfl q, fun _ => ⟨rfl, fin⟩⟩)
  · subst hx
    refine s_isSkin (by omega) m3 (fun _ => ⟨fun _ => ?_, fun q => absurd q (by decide)⟩) (fun q => absurd ⟨a, ha, rfl⟩ q)
    exact s_lawsM hT hh m1 m2 (l2 a ha) hE hs2 ha (fun way => ⟨rfl, fin⟩)
set_option maxHeartbeats 4000000 in
set_option maxRecDepth 100000 in
theorem law_sure {c_text_length : Int32} {cf_text_bytes : Nat → Int32} {c_town_places : Int32} {c_town_skins : Int32} {c_town_smoke : Int32} {c_town_tide : Int32} {cf_town_house : Nat → Int32} {cf_town_view : Nat → Int32} {cf_town_girth : Nat → Int32} {cf_town_kind : Nat → Int32} {c_town_hiding_looks : Int32} {cf_town_hiding_start : Nat → Int32} {cf_town_hiding_looker : Nat → Int32} {cf_town_hiding_lookPlace : Nat → Int32} {cf_town_hiding_lookDay : Nat → Int32} {cf_course_finder : Nat → Int32} {cf_course_prize : Nat → Int32} {cf_course_prizeDay : Nat → Int32} {cB_course_path : Nat → Nat → Int32} {c_sightings_held : Int32} {cf_sightings_skinSeen : Nat → Int32} {cf_sightings_placeSeen : Nat → Int32} {cf_sightings_daySeen : Nat → Int32} {cf_sightings_wasThere : Nat → Int32} {c_changes_held : Int32} {cf_changes_skinHidden : Nat → Int32} {cf_changes_former : Nat → Int32} {c_shelf_held : Int32} {c_shelf_rows_e0_looks : Int32} {cf_shelf_rows_e0_start : Nat → Int32} {cf_shelf_rows_e0_looker : Nat → Int32} {cf_shelf_rows_e0_lookPlace : Nat → Int32} {cf_shelf_rows_e0_lookDay : Nat → Int32} {c_shelf_rows_e1_looks : Int32} {cf_shelf_rows_e1_start : Nat → Int32} {cf_shelf_rows_e1_looker : Nat → Int32} {cf_shelf_rows_e1_lookPlace : Nat → Int32} {cf_shelf_rows_e1_lookDay : Nat → Int32} {m_length : Int32} {mf_text : Nat → Int32} {mf_places : Nat → Int32} {mf_houses : Nat → Int32} {mf_sights : Nat → Int32} {mf_many : Nat → Int32} {mf_sizes : Nat → Int32} {mf_kinds : Nat → Int32} {mf_smoke : Nat → Int32} {mf_tide : Nat → Int32} {mf_firsts : Nat → Int32} {mf_looks : Nat → Int32} {mf_lookOf : Nat → Int32} {mf_lookAt : Nat → Int32} {mf_lookOn : Nat → Int32} {m_keptMany : Int32} {m_undoMany : Int32} {mf_undos : Nat → Int32} {m_seenMany : Int32} {mf_seenOf : Nat → Int32} {mf_seenAt : Nat → Int32} {mf_seenOn : Nat → Int32} {mf_seenThere : Nat → Int32} {cf_sightings_path : Nat → Int32} {c_search_days : Int32} {c_search_firstPlace : Int32} {cf_search_opening : Nat → Int32} {cB_search_path : Nat → Nat → Int32} {cf_search_met : Nat → Int32} {m_way : Int32} {mf_now : Nat → Int32} {mf_thereSet : Nat → Int32} {mf_then : Nat → Int32} (hI : PInv c_text_length cf_text_bytes c_town_places c_town_skins c_town_smoke c_town_tide cf_town_house cf_town_view cf_town_girth cf_town_kind c_town_hiding_looks cf_town_hiding_start cf_town_hiding_looker cf_town_hiding_lookPlace cf_town_hiding_lookDay cf_course_finder cf_course_prize cf_course_prizeDay cB_course_path c_sightings_held cf_sightings_skinSeen cf_sightings_placeSeen cf_sightings_daySeen cf_sightings_wasThere c_changes_held cf_changes_skinHidden cf_changes_former c_shelf_held c_shelf_rows_e0_looks cf_shelf_rows_e0_start cf_shelf_rows_e0_looker cf_shelf_rows_e0_lookPlace cf_shelf_rows_e0_lookDay c_shelf_rows_e1_looks cf_shelf_rows_e1_start cf_shelf_rows_e1_looker cf_shelf_rows_e1_lookPlace cf_shelf_rows_e1_lookDay m_length mf_text mf_places mf_houses mf_sights mf_many mf_sizes mf_kinds mf_smoke mf_tide mf_firsts mf_looks mf_lookOf mf_lookAt mf_lookOn m_keptMany m_undoMany mf_undos m_seenMany mf_seenOf mf_seenAt mf_seenOn mf_seenThere) (x1 : Int32) (x2 : Int32) : pX8_sure c_town_places c_town_skins cf_town_kind c_sightings_held cf_sightings_path cf_town_house cf_sightings_skinSeen cf_sightings_daySeen cf_sightings_placeSeen cf_sightings_wasThere c_search_days c_search_firstPlace cf_search_opening cB_search_path cf_search_met x1 x2 (fun (r : Int32) (o1 : Nat → Int32) (o2 : Int32) (o3 : Int32) (o4 : Nat → Int32) (o5 : Nat → Nat → Int32) (o6 : Nat → Int32) => pX9_sure m_seenMany m_way mf_many mf_places mf_kinds mf_seenOf mf_seenOn mf_houses mf_seenAt mf_seenThere mf_now mf_thereSet mf_then x1 x2 (fun (r2 : Int32) (p1 : Int32) (p2 : Nat → Int32) (p3 : Nat → Int32) (p4 : Nat → Int32) => r = r2 ∧ PInv c_text_length cf_text_bytes c_town_places c_town_skins c_town_smoke c_town_tide cf_town_house cf_town_view cf_town_girth cf_town_kind c_town_hiding_looks cf_town_hiding_start cf_town_hiding_looker cf_town_hiding_lookPlace cf_town_hiding_lookDay cf_course_finder cf_course_prize cf_course_prizeDay cB_course_path c_sightings_held cf_sightings_skinSeen cf_sightings_placeSeen cf_sightings_daySeen cf_sightings_wasThere c_changes_held cf_changes_skinHidden cf_changes_former c_shelf_held c_shelf_rows_e0_looks cf_shelf_rows_e0_start cf_shelf_rows_e0_looker cf_shelf_rows_e0_lookPlace cf_shelf_rows_e0_lookDay c_shelf_rows_e1_looks cf_shelf_rows_e1_start cf_shelf_rows_e1_looker cf_shelf_rows_e1_lookPlace cf_shelf_rows_e1_lookDay m_length mf_text mf_places mf_houses mf_sights mf_many mf_sizes mf_kinds mf_smoke mf_tide mf_firsts mf_looks mf_lookOf mf_lookAt mf_lookOn m_keptMany m_undoMany mf_undos m_seenMany mf_seenOf mf_seenAt mf_seenOn mf_seenThere)) := by
  obtain ⟨tx, n, T, h, m, E, u, U, kc, G, i1, i2, i3, i4, i5, i6, i7⟩ := hI
  have fin : PInv _ _ _ _ _ _ _ _ _ _ _ _ _ _ _ _ _ _ _ _ _ _ _ _ _ _ _ _ _ _ _ _ _ _ _ _ _ _ _ _ _ _ _ _ _ _ _ _ _ _ _ _ _ _ _ _ _ _ _ _ _ := ⟨tx, n, T, h, m, E, u, U, kc, G, i1, i2, i3, i4, i5, i6, i7⟩
  obtain ⟨hT, rfl, rfl, rfl, rfl, hw, hv, hm, hfs, hft⟩ := i2
  obtain ⟨hh, rfl, hst, hl, hmh⟩ := i3
  obtain ⟨he, hB⟩ := i4
  obtain ⟨t1, t2, t3, t4, t5, t6, t7, t8, t9⟩ := id hT
  obtain ⟨m1, m2, m3, m4, m5⟩ := id hm
  obtain ⟨l1, l2, l3⟩ := id hmh
  have hcs := csok_crs hT hh
  have z0 : (0 : Int32).toNatClampNeg = 0 := rfl
  obtain ⟨hE, rfl, hs, rfl, hs2⟩ := i5
  unfold pX8_sure pX9_sure
  refine s_hasSkin (by omega) (fun hx => ⟨fun q => absurd q (by decide), fun _ => ?_⟩) (fun hx => ⟨fun _ => ?_, fun q => absurd rfl q⟩)
  · obtain ⟨a, ha, rfl⟩ := hx
    refine s_isZeroOrOne (fun hz => ⟨fun _ => ⟨vp_in_nI (by omega) (by omega), ?_⟩, fun q => absurd q (by decide)⟩) (fun hz => ⟨fun q => absurd rfl q, fun _ => ?_⟩)
    · refine s_possibleStarts hT hw hE hs ha (fun g => ?_)
      obtain ⟨b, hb, eb⟩ := st_N hT m E a
      rw [eb, nI_clamp (by omega), (hw.2 a ha).2]
      have tk := (t9 a ha).2.2
      refine s_srun hT hw.1 (by omega) hb (fun b0 O B M => ?_) (fun b0 hd O B M => ?_) (fun b0 hd O B M => ?_)
      all_goals
        refine ⟨fun cx => ?_, fun cx => ?_⟩
        all_goals
          refine s_isSkin (by omega) m3 (fun _ => ⟨fun q => absurd q (by decide), fun _ => ?_⟩) (fun q => absurd ⟨a, ha, rfl⟩ q)
          refine s_in0 (k := 1) (by decide) (by omega) (fun _ => ⟨fun _ => ?_, fun q => absurd q (by decide)⟩) (fun q => absurd hz q)
          refine s_startsOf hT m1 m2 (fun i hi => (m4 i hi).2) hE hs2 ha (fun way => ?_)
          rw [eb, show (0 : Int32) = nI 0 from rfl, nI_eq (by omega) (by omega), ← show (0 : Int32) = nI 0 from rfl]
      · exact ⟨fun q => absurd b0 q, fun _ => ⟨fun _ => ⟨rfl, fin⟩, fun q => absurd q cx⟩⟩
      · exact ⟨fun q => absurd b0 q, fun _ => ⟨fun q => absurd cx q, fun _ => ⟨rfl, fin⟩⟩⟩
      · refine ⟨fun _ => ?_, fun q => by omega⟩
        refine s_sureM hT m1 m2 (m4 a ha).2 ha hb (fun _ hz2 way nw th tn hn => ⟨fun _ => ⟨?_, fin⟩, fun q => absurd q cx⟩) (fun q => by omega)
        rw [z0, hn, show (1 : Int32) = nI 1 from rfl, pk_sub (by omega)]
      · refine ⟨fun _ => ?_, fun q => by omega⟩
        exact s_sureM hT m1 m2 (m4 a ha).2 ha hb (fun _ hz2 way nw th tn hn => ⟨fun q => absurd cx q, fun _ => ⟨rfl, fin⟩⟩) (fun q => by omega)
      · refine ⟨fun _ => ?_, fun q => by omega⟩
        exact s_sureM hT m1 m2 (m4 a ha).2 ha hb (fun q => by omega) (fun _ way nw th tn => ⟨rfl, fin⟩)
      · refine ⟨fun _ => ?_, fun q => by omega⟩
        exact s_sureM hT m1 m2 (m4 a ha).2 ha hb (fun q => by omega) (fun _ way nw th tn => ⟨rfl, fin⟩)
    · refine s_isSkin (by omega) m3 (fun _ => ⟨fun q => absurd q (by decide), fun _ => ?_⟩) (fun q => absurd ⟨a, ha, rfl⟩ q)
      exact s_in0 (k := 1) (by decide) (by omega) (fun q => absurd q hz) (fun _ => ⟨fun q => absurd rfl q, fun _ => ⟨rfl, fin⟩⟩)
  · exact s_isSkin (by omega) m3 (fun q => absurd q hx) (fun _ => ⟨fun _ => ⟨rfl, fin⟩, fun q => absurd rfl q⟩)
