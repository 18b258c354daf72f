/-! ===== reading and laying ===== -/
theorem I2_kr {T : Nat → Nat → Nat} {pl sk sm ti : Int32} {ho vi gi ki fp fh fs fm fz fk fw ft fp2 fh2 fs2 fm2 fz2 fk2 fw2 ft2 : Nat → Int32} (h : I2 T pl sk sm ti ho vi gi ki fp fh fs fm fz fk fw ft) (h1 : kp 1 2 fp fp2) (h2 : kp 9 18 fh fh2) (h3 : kp 9 18 fs fs2) (h4 : kp 1 2 fm fm2) (h5 : kp 5 10 fz fz2) (h6 : kp 5 10 fk fk2) (h7 : kp 1 2 fw fw2) (h8 : kp 1 2 ft ft2) : I2 T pl sk sm ti ho vi gi ki fp2 fh2 fs2 fm2 fz2 fk2 fw2 ft2 := by
  obtain ⟨a1, a2, a3, a4, a5, a6, a7, ⟨b1, b2, b3, b4, b5⟩, a9, a10⟩ := h
  have t2 := a1.2.1
  have t4 := a1.2.2.2.1
  refine ⟨a1, a2, a3, a4, a5, a6, a7, ⟨?_, fun k hk => ?_, ?_, fun i hi => ?_, ?_⟩, fun k hk => ?_, ?_⟩
  · rw [h1 0 (by omega)]; exact b1
  · rw [h2 k (by omega)]; exact b2 k hk
  · rw [h4 0 (by omega)]; exact b3
  · rw [h5 i (by omega), h6 i (by omega)]; exact b4 i hi
  · rw [h7 0 (by omega)]; exact b5
  · rw [h3 k (by omega)]; exact a9 k hk
  · rw [h8 0 (by omega)]; exact a10
theorem I3_kr {T h : Nat → Nat → Nat} {lk : Int32} {st lo lp ld ff fl ml ma mo ff2 fl2 ml2 ma2 mo2 : Nat → Int32} (hT : tok T) (hi3 : I3 T h lk st lo lp ld ff fl ml ma mo) (h1 : kp 5 10 ff ff2) (h2 : kp 1 2 fl fl2) (h3 : kp 9 18 ml ml2) (h4 : kp 9 18 ma ma2) (h5 : kp 9 18 mo mo2) : I3 T h lk st lo lp ld ff2 fl2 ml2 ma2 mo2 := by
  obtain ⟨a1, a2, a3, a4, b1, b2, b3⟩ := hi3
  have t4 := hT.2.2.2.1
  have h9 := a1.1
  refine ⟨a1, a2, a3, a4, ?_, fun i hi => ?_, fun k hk => ?_⟩
  · rw [h2 0 (by omega)]; exact b1
  · rw [h1 i (by omega)]; exact b2 i hi
  · rw [h3 k (by omega), h4 k (by omega), h5 k (by omega)]; exact b3 k hk
theorem s_lay69 {ho si : Nat → Int32} {K : (Nat → Int32) → (Nat → Int32) → Prop} (h : ∀ ho2 si2, (∀ k, k < 9 → ho2 k = ho (9 + k) ∧ si2 k = si (9 + k)) → K ho2 si2) : ∃ n_ : Nat, it3 (pX9_lay_B69 K) n_ 0 ho si := by
  refine it3_rule (fun x f g => ∃ p, p ≤ 9 ∧ x = nI p ∧ (∀ k, k < p → f k = ho (9 + k) ∧ g k = si (9 + k)) ∧ ∀ j, 9 ≤ j → f j = ho j ∧ g j = si j) (fun x _ _ => 10 - x.toNatClampNeg) ?_ _ _ _ ⟨0, by omega, rfl, fun k hk => by omega, fun _ _ => ⟨rfl, rfl⟩⟩
  rintro rec x f g ⟨p, hp, rfl, h1, h2⟩ hrec
  unfold pX9_lay_B69
  rw [show (9 : Int32) = nI 9 from rfl, nI_leI (by omega) (by omega)]
  refine br_c (fun c => ?_) (fun c => ?_)
  · have e : p = 9 := by omega
    subst e; exact h f g h1
  · rw [nI_add, nI_1, nI_clamp (by omega), nI_clamp (by omega)]
    refine ⟨vp_in_nI (by omega) (by omega), vp_in_nI (by omega) (by omega), vp_in_nI (by omega) (by omega), vp_in_nI (by omega) (by omega), hrec _ _ _ ⟨p + 1, by omega, rfl, fun k hk => ?_, fun j hj => ?_⟩ (by rw [nI_clamp (by omega), nI_clamp (by omega)]; omega)⟩
    · by_cases e : k = p
      · subst e; rw [pk_us, pk_us]; exact h2 _ (by omega)
      · rw [pk_un e, pk_un e]; exact h1 k (by omega)
    · rw [pk_un (by omega), pk_un (by omega)]; exact h2 j hj
theorem s_lay113 {ho si : Nat → Int32} {K : (Nat → Int32) → (Nat → Int32) → Prop} (h : ∀ ho2 si2, (∀ k, k < 5 → ho2 k = ho (5 + k) ∧ si2 k = si (5 + k)) → K ho2 si2) : ∃ n_ : Nat, it3 (pX9_lay_B113 K) n_ 0 ho si := by
  refine it3_rule (fun x f g => ∃ p, p ≤ 5 ∧ x = nI p ∧ (∀ k, k < p → f k = ho (5 + k) ∧ g k = si (5 + k)) ∧ ∀ j, 5 ≤ j → f j = ho j ∧ g j = si j) (fun x _ _ => 6 - x.toNatClampNeg) ?_ _ _ _ ⟨0, by omega, rfl, fun k hk => by omega, fun _ _ => ⟨rfl, rfl⟩⟩
  rintro rec x f g ⟨p, hp, rfl, h1, h2⟩ hrec
  unfold pX9_lay_B113
  rw [show (5 : Int32) = nI 5 from rfl, nI_leI (by omega) (by omega)]
  refine br_c (fun c => ?_) (fun c => ?_)
  · have e : p = 5 := by omega
    subst e; exact h f g h1
  · rw [nI_add, nI_1, nI_clamp (by omega), nI_clamp (by omega)]
    refine ⟨vp_in_nI (by omega) (by omega), vp_in_nI (by omega) (by omega), vp_in_nI (by omega) (by omega), vp_in_nI (by omega) (by omega), hrec _ _ _ ⟨p + 1, by omega, rfl, fun k hk => ?_, fun j hj => ?_⟩ (by rw [nI_clamp (by omega), nI_clamp (by omega)]; omega)⟩
    · by_cases e : k = p
      · subst e; rw [pk_us, pk_us]; exact h2 _ (by omega)
      · rw [pk_un e, pk_un e]; exact h1 k (by omega)
    · rw [pk_un (by omega), pk_un (by omega)]; exact h2 j hj
theorem s_copyX {a b : Nat} {x y : Int32} {fi lk lo la ln : Nat → Int32} {K : (Nat → Int32) → (Nat → Int32) → (Nat → Int32) → (Nat → Int32) → (Nat → Int32) → Prop} (hx : x = nI a) (hy : y = nI b) (ha : a < 4) (hb : b < 4) (hab : a ≠ b)
    (h : ∀ fi2 lo2 la2 ln2 : Nat → Int32, (∀ i, i < 5 → fi2 (5 * b + i) = fi (5 * a + i)) → (∀ k, k < 9 → lo2 (9 * b + k) = lo (9 * a + k) ∧ la2 (9 * b + k) = la (9 * a + k) ∧ ln2 (9 * b + k) = ln (9 * a + k)) → K fi2 (upd lk b (lk a)) lo2 la2 ln2) : pX9_copy fi lk lo la ln x y K := by
  subst hx hy
  exact s_copy ha hb hab (fun fi2 lo2 la2 ln2 c1 _ c3 _ _ _ => h fi2 lo2 la2 ln2 c1 c3)
set_option maxHeartbeats 4000000 in
set_option maxRecDepth 100000 in
theorem law_fault {c_text_length : Int32} {cf_text_bytes : Nat → Int32} {c_town_places : Int32} {c_town_skins : Int32} {c_town_smoke : Int32} {c_town_tide : Int32} {cf_town_house : Nat → Int32} {cf_town_view : Nat → Int32} {cf_town_girth : Nat → Int32} {cf_town_kind : Nat → Int32} {c_town_hiding_looks : Int32} {cf_town_hiding_start : Nat → Int32} {cf_town_hiding_looker : Nat → Int32} {cf_town_hiding_lookPlace : Nat → Int32} {cf_town_hiding_lookDay : Nat → Int32} {cf_course_finder : Nat → Int32} {cf_course_prize : Nat → Int32} {cf_course_prizeDay : Nat → Int32} {cB_course_path : Nat → Nat → Int32} {c_sightings_held : Int32} {cf_sightings_skinSeen : Nat → Int32} {cf_sightings_placeSeen : Nat → Int32} {cf_sightings_daySeen : Nat → Int32} {cf_sightings_wasThere : Nat → Int32} {c_changes_held : Int32} {cf_changes_skinHidden : Nat → Int32} {cf_changes_former : Nat → Int32} {c_shelf_held : Int32} {c_shelf_rows_e0_looks : Int32} {cf_shelf_rows_e0_start : Nat → Int32} {cf_shelf_rows_e0_looker : Nat → Int32} {cf_shelf_rows_e0_lookPlace : Nat → Int32} {cf_shelf_rows_e0_lookDay : Nat → Int32} {c_shelf_rows_e1_looks : Int32} {cf_shelf_rows_e1_start : Nat → Int32} {cf_shelf_rows_e1_looker : Nat → Int32} {cf_shelf_rows_e1_lookPlace : Nat → Int32} {cf_shelf_rows_e1_lookDay : Nat → Int32} {m_length : Int32} {mf_text : Nat → Int32} {mf_places : Nat → Int32} {mf_houses : Nat → Int32} {mf_sights : Nat → Int32} {mf_many : Nat → Int32} {mf_sizes : Nat → Int32} {mf_kinds : Nat → Int32} {mf_smoke : Nat → Int32} {mf_tide : Nat → Int32} {mf_firsts : Nat → Int32} {mf_looks : Nat → Int32} {mf_lookOf : Nat → Int32} {mf_lookAt : Nat → Int32} {mf_lookOn : Nat → Int32} {m_keptMany : Int32} {m_undoMany : Int32} {mf_undos : Nat → Int32} {m_seenMany : Int32} {mf_seenOf : Nat → Int32} {mf_seenAt : Nat → Int32} {mf_seenOn : Nat → Int32} {mf_seenThere : Nat → Int32} {cf_text_numbers : Nat → Int32} {cf_draft_hiding_looker : Nat → Int32} {cf_draft_hiding_lookPlace : Nat → Int32} {cf_draft_hiding_lookDay : Nat → Int32} {cf_draft_house : Nat → Int32} {cf_draft_view : Nat → Int32} {cf_draft_hiding_start : Nat → Int32} {cf_draft_girth : Nat → Int32} {cf_draft_kind : Nat → Int32} {mf_told : Nat → Int32} (hI : PInv c_text_length cf_text_bytes c_town_places c_town_skins c_town_smoke c_town_tide cf_town_house cf_town_view cf_town_girth cf_town_kind c_town_hiding_looks cf_town_hiding_start cf_town_hiding_looker cf_town_hiding_lookPlace cf_town_hiding_lookDay cf_course_finder cf_course_prize cf_course_prizeDay cB_course_path c_sightings_held cf_sightings_skinSeen cf_sightings_placeSeen cf_sightings_daySeen cf_sightings_wasThere c_changes_held cf_changes_skinHidden cf_changes_former c_shelf_held c_shelf_rows_e0_looks cf_shelf_rows_e0_start cf_shelf_rows_e0_looker cf_shelf_rows_e0_lookPlace cf_shelf_rows_e0_lookDay c_shelf_rows_e1_looks cf_shelf_rows_e1_start cf_shelf_rows_e1_looker cf_shelf_rows_e1_lookPlace cf_shelf_rows_e1_lookDay m_length mf_text mf_places mf_houses mf_sights mf_many mf_sizes mf_kinds mf_smoke mf_tide mf_firsts mf_looks mf_lookOf mf_lookAt mf_lookOn m_keptMany m_undoMany mf_undos m_seenMany mf_seenOf mf_seenAt mf_seenOn mf_seenThere)  : pX8_fault c_text_length cf_text_bytes cf_text_numbers cf_draft_hiding_looker cf_draft_hiding_lookPlace cf_draft_hiding_lookDay cf_draft_house cf_draft_view cf_draft_hiding_start cf_draft_girth cf_draft_kind (fun (r : Int32) (o1 : Int32) (o2 : Int32) (o3 : Int32) (o4 : Int32) (o5 : Int32) (o6 : Nat → Int32) (o7 : Nat → Int32) (o8 : Nat → Int32) (o9 : Nat → Int32) (o10 : Nat → Int32) (o11 : Nat → Int32) (o12 : Nat → Int32) (o13 : Nat → Int32) (o14 : Nat → Int32) => pX9_fault m_length mf_places mf_many mf_looks mf_smoke mf_tide mf_text mf_told mf_lookOf mf_lookAt mf_lookOn mf_houses mf_sights mf_firsts mf_sizes mf_kinds (fun (r2 : Int32) (p1 : Int32) (p2 : Nat → Int32) (p3 : Nat → Int32) (p4 : Nat → Int32) (p5 : Nat → Int32) (p6 : Nat → Int32) (p7 : Nat → Int32) (p8 : Nat → Int32) (p9 : Nat → Int32) (p10 : Nat → Int32) (p11 : Nat → Int32) (p12 : Nat → Int32) (p13 : Nat → Int32) (p14 : Nat → Int32) (p15 : Nat → Int32) => r = r2 ∧ PInv c_text_length cf_text_bytes c_town_places c_town_skins c_town_smoke c_town_tide cf_town_house cf_town_view cf_town_girth cf_town_kind c_town_hiding_looks cf_town_hiding_start cf_town_hiding_looker cf_town_hiding_lookPlace cf_town_hiding_lookDay cf_course_finder cf_course_prize cf_course_prizeDay cB_course_path c_sightings_held cf_sightings_skinSeen cf_sightings_placeSeen cf_sightings_daySeen cf_sightings_wasThere c_changes_held cf_changes_skinHidden cf_changes_former c_shelf_held c_shelf_rows_e0_looks cf_shelf_rows_e0_start cf_shelf_rows_e0_looker cf_shelf_rows_e0_lookPlace cf_shelf_rows_e0_lookDay c_shelf_rows_e1_looks cf_shelf_rows_e1_start cf_shelf_rows_e1_looker cf_shelf_rows_e1_lookPlace cf_shelf_rows_e1_lookDay m_length mf_text p2 p11 p12 p3 p14 p15 p5 p6 p13 p4 p8 p9 p10 m_keptMany m_undoMany mf_undos m_seenMany mf_seenOf mf_seenAt mf_seenOn mf_seenThere)) := by
  obtain ⟨tx, n, T, h, m, E, u, U, kc, G, i1, i2, i3, i4, i5, i6, i7⟩ := hI
  have fin : PInv _ _ _ _ _ _ _ _ _ _ _ _ _ _ _ _ _ _ _ _ _ _ _ _ _ _ _ _ _ _ _ _ _ _ _ _ _ _ _ _ _ _ _ _ _ _ _ _ _ _ _ _ _ _ _ _ _ _ _ _ _ := ⟨tx, n, T, h, m, E, u, U, kc, G, i1, i2, i3, i4, i5, i6, i7⟩
  have j2 := i2
  have j3 := i3
  have j4 := i4
  have j7 := i7
  obtain ⟨rfl, a2, rfl, a4, a5, a6⟩ := id i1
  unfold pX8_fault pX9_fault
  refine s_readInto a5 a6 a2 (fun e _ _ _ _ _ _ _ _ _ _ _ _ _ _ _ => ?_) (fun a e _ _ _ _ _ _ _ _ _ _ _ _ _ _ => ?_)
  · refine s_mreadAll a5 a6 a4 (fun e2 sp told pl mn lk sm ti lo la ln ho si fi sz kn _ kr => ?_) (fun b e2 => ?_)
    · obtain ⟨k1, k2, k3, k4, k5, k6, k7, k8, k9, k10, k11, k12, k13⟩ := kr
      exact ⟨rfl, ⟨tx, n, T, h, m, E, u, U, kc, G, i1, I2_kr j2 k1 k9 k10 k2 k12 k13 k4 k5, I3_kr i2.1 j3 k11 k3 k6 k7 k8, j4, i5, i6, I7_kp j7 (fun j hj => k11 j (Or.inr hj)) (fun j hj => k3 j (Or.inr hj)) (fun j hj => k6 j (Or.inr hj)) (fun j hj => k7 j (Or.inr hj)) (fun j hj => k8 j (Or.inr hj))⟩⟩
    · rw [e] at e2; cases e2
  · refine s_mreadAll a5 a6 a4 (fun e2 => ?_) (fun b e2 sp told pl mn lk sm ti lo la ln ho si fi sz kn kr => ?_)
    · rw [e] at e2; cases e2
    · obtain ⟨k1, k2, k3, k4, k5, k6, k7, k8, k9, k10, k11, k12, k13⟩ := kr
      rw [e] at e2; cases e2
      exact ⟨rfl, ⟨tx, n, T, h, m, E, u, U, kc, G, i1, I2_kr j2 k1 k9 k10 k2 k12 k13 k4 k5, I3_kr i2.1 j3 k11 k3 k6 k7 k8, j4, i5, i6, I7_kp j7 (fun j hj => k11 j (Or.inr hj)) (fun j hj => k3 j (Or.inr hj)) (fun j hj => k6 j (Or.inr hj)) (fun j hj => k7 j (Or.inr hj)) (fun j hj => k8 j (Or.inr hj))⟩⟩
set_option maxHeartbeats 4000000 in
set_option maxRecDepth 100000 in
theorem law_lay {c_text_length : Int32} {cf_text_bytes : Nat → Int32} {c_town_places : Int32} {c_town_skins : Int32} {c_town_smoke : Int32} {c_town_tide : Int32} {cf_town_house : Nat → Int32} {cf_town_view : Nat → Int32} {cf_town_girth : Nat → Int32} {cf_town_kind : Nat → Int32} {c_town_hiding_looks : Int32} {cf_town_hiding_start : Nat → Int32} {cf_town_hiding_looker : Nat → Int32} {cf_town_hiding_lookPlace : Nat → Int32} {cf_town_hiding_lookDay : Nat → Int32} {cf_course_finder : Nat → Int32} {cf_course_prize : Nat → Int32} {cf_course_prizeDay : Nat → Int32} {cB_course_path : Nat → Nat → Int32} {c_sightings_held : Int32} {cf_sightings_skinSeen : Nat → Int32} {cf_sightings_placeSeen : Nat → Int32} {cf_sightings_daySeen : Nat → Int32} {cf_sightings_wasThere : Nat → Int32} {c_changes_held : Int32} {cf_changes_skinHidden : Nat → Int32} {cf_changes_former : Nat → Int32} {c_shelf_held : Int32} {c_shelf_rows_e0_looks : Int32} {cf_shelf_rows_e0_start : Nat → Int32} {cf_shelf_rows_e0_looker : Nat → Int32} {cf_shelf_rows_e0_lookPlace : Nat → Int32} {cf_shelf_rows_e0_lookDay : Nat → Int32} {c_shelf_rows_e1_looks : Int32} {cf_shelf_rows_e1_start : Nat → Int32} {cf_shelf_rows_e1_looker : Nat → Int32} {cf_shelf_rows_e1_lookPlace : Nat → Int32} {cf_shelf_rows_e1_lookDay : Nat → Int32} {m_length : Int32} {mf_text : Nat → Int32} {mf_places : Nat → Int32} {mf_houses : Nat → Int32} {mf_sights : Nat → Int32} {mf_many : Nat → Int32} {mf_sizes : Nat → Int32} {mf_kinds : Nat → Int32} {mf_smoke : Nat → Int32} {mf_tide : Nat → Int32} {mf_firsts : Nat → Int32} {mf_looks : Nat → Int32} {mf_lookOf : Nat → Int32} {mf_lookAt : Nat → Int32} {mf_lookOn : Nat → Int32} {m_keptMany : Int32} {m_undoMany : Int32} {mf_undos : Nat → Int32} {m_seenMany : Int32} {mf_seenOf : Nat → Int32} {mf_seenAt : Nat → Int32} {mf_seenOn : Nat → Int32} {mf_seenThere : Nat → Int32} {ca_town : Nat} {ca_draft : Nat} {cf_text_numbers : Nat → Int32} {cf_draft_hiding_looker : Nat → Int32} {cf_draft_hiding_lookPlace : Nat → Int32} {cf_draft_hiding_lookDay : Nat → Int32} {cf_draft_house : Nat → Int32} {cf_draft_view : Nat → Int32} {cf_draft_hiding_start : Nat → Int32} {cf_draft_girth : Nat → Int32} {cf_draft_kind : Nat → Int32} {mf_told : Nat → Int32} (hI : PInv c_text_length cf_text_bytes c_town_places c_town_skins c_town_smoke c_town_tide cf_town_house cf_town_view cf_town_girth cf_town_kind c_town_hiding_looks cf_town_hiding_start cf_town_hiding_looker cf_town_hiding_lookPlace cf_town_hiding_lookDay cf_course_finder cf_course_prize cf_course_prizeDay cB_course_path c_sightings_held cf_sightings_skinSeen cf_sightings_placeSeen cf_sightings_daySeen cf_sightings_wasThere c_changes_held cf_changes_skinHidden cf_changes_former c_shelf_held c_shelf_rows_e0_looks cf_shelf_rows_e0_start cf_shelf_rows_e0_looker cf_shelf_rows_e0_lookPlace cf_shelf_rows_e0_lookDay c_shelf_rows_e1_looks cf_shelf_rows_e1_start cf_shelf_rows_e1_looker cf_shelf_rows_e1_lookPlace cf_shelf_rows_e1_lookDay m_length mf_text mf_places mf_houses mf_sights mf_many mf_sizes mf_kinds mf_smoke mf_tide mf_firsts mf_looks mf_lookOf mf_lookAt mf_lookOn m_keptMany m_undoMany mf_undos m_seenMany mf_seenOf mf_seenAt mf_seenOn mf_seenThere)  : pX8_lay ca_town ca_draft c_text_length cf_text_bytes cf_text_numbers cf_draft_hiding_looker cf_draft_hiding_lookPlace cf_draft_hiding_lookDay cf_draft_house cf_draft_view cf_draft_hiding_start cf_draft_girth cf_draft_kind c_sightings_held c_changes_held c_shelf_held cf_course_finder cf_course_prize cf_course_prizeDay cB_course_path (fun (r : Int32) (o1 : Nat) (o2 : Nat) (o3 : Int32) (o4 : Int32) (o5 : Int32) (o6 : Int32) (o7 : Int32) (o8 : Nat → Int32) (o9 : Nat → Int32) (o10 : Nat → Int32) (o11 : Nat → Int32) (o12 : Nat → Int32) (o13 : Nat → Int32) (o14 : Nat → Int32) (o15 : Nat → Int32) (o16 : Nat → Int32) (o17 : Int32) (o18 : Int32) (o19 : Int32) (o20 : Nat → Int32) (o21 : Nat → Int32) (o22 : Nat → Int32) (o23 : Nat → Nat → Int32) => pX9_lay m_length m_keptMany m_undoMany m_seenMany mf_places mf_many mf_looks mf_smoke mf_tide mf_text mf_told mf_lookOf mf_lookAt mf_lookOn mf_houses mf_sights mf_firsts mf_sizes mf_kinds (fun (r2 : Int32) (p1 : Int32) (p2 : Int32) (p3 : Int32) (p4 : Int32) (p5 : Nat → Int32) (p6 : Nat → Int32) (p7 : Nat → Int32) (p8 : Nat → Int32) (p9 : Nat → Int32) (p10 : Nat → Int32) (p11 : Nat → Int32) (p12 : Nat → Int32) (p13 : Nat → Int32) (p14 : Nat → Int32) (p15 : Nat → Int32) (p16 : Nat → Int32) (p17 : Nat → Int32) (p18 : Nat → Int32) => r = r2 ∧ ((o1 = ca_town ∧ o2 = ca_draft ∧ PInv c_text_length cf_text_bytes c_town_places c_town_skins c_town_smoke c_town_tide cf_town_house cf_town_view cf_town_girth cf_town_kind c_town_hiding_looks cf_town_hiding_start cf_town_hiding_looker cf_town_hiding_lookPlace cf_town_hiding_lookDay o20 o21 o22 o23 o17 cf_sightings_skinSeen cf_sightings_placeSeen cf_sightings_daySeen cf_sightings_wasThere o18 cf_changes_skinHidden cf_changes_former o19 c_shelf_rows_e0_looks cf_shelf_rows_e0_start cf_shelf_rows_e0_looker cf_shelf_rows_e0_lookPlace cf_shelf_rows_e0_lookDay c_shelf_rows_e1_looks cf_shelf_rows_e1_start cf_shelf_rows_e1_looker cf_shelf_rows_e1_lookPlace cf_shelf_rows_e1_lookDay m_length mf_text p5 p14 p15 p6 p17 p18 p8 p9 p16 p7 p11 p12 p13 p1 p2 mf_undos p3 mf_seenOf mf_seenAt mf_seenOn mf_seenThere) ∨ (o1 = ca_draft ∧ o2 = ca_town ∧ PInv c_text_length cf_text_bytes o3 o4 o5 o6 o12 o13 o15 o16 o7 o14 o9 o10 o11 o20 o21 o22 o23 o17 cf_sightings_skinSeen cf_sightings_placeSeen cf_sightings_daySeen cf_sightings_wasThere o18 cf_changes_skinHidden cf_changes_former o19 c_shelf_rows_e0_looks cf_shelf_rows_e0_start cf_shelf_rows_e0_looker cf_shelf_rows_e0_lookPlace cf_shelf_rows_e0_lookDay c_shelf_rows_e1_looks cf_shelf_rows_e1_start cf_shelf_rows_e1_looker cf_shelf_rows_e1_lookPlace cf_shelf_rows_e1_lookDay m_length mf_text p5 p14 p15 p6 p17 p18 p8 p9 p16 p7 p11 p12 p13 p1 p2 mf_undos p3 mf_seenOf mf_seenAt mf_seenOn mf_seenThere)))) := by
  obtain ⟨tx, n, T, h, m, E, u, U, kc, G, i1, i2, i3, i4, i5, i6, i7⟩ := hI
  have fin : PInv _ _ _ _ _ _ _ _ _ _ _ _ _ _ _ _ _ _ _ _ _ _ _ _ _ _ _ _ _ _ _ _ _ _ _ _ _ _ _ _ _ _ _ _ _ _ _ _ _ _ _ _ _ _ _ _ _ _ _ _ _ := ⟨tx, n, T, h, m, E, u, U, kc, G, i1, i2, i3, i4, i5, i6, i7⟩
  have j2 := i2
  have j3 := i3
  have j4 := i4
  have j7 := i7
  obtain ⟨rfl, a2, rfl, a4, a5, a6⟩ := id i1
  unfold pX8_lay pX9_lay pX8_layText
  have hD : dok (rdT tx n).2 := rd_dok 301 0 dd0 dok_0
  refine s_readInto a5 a6 a2 (fun e num pl sk sm ti lk lo lp ld ho vi st gi ki hc => ?_) (fun a e _ _ _ _ _ _ _ _ _ _ _ _ _ _ => ?_)
  · refine ⟨fun q => absurd rfl q, fun _ => ?_⟩
    obtain ⟨rfl, rfl, rfl, rfl, rfl, c6, c7, c8⟩ := hc
    refine s_canBeLaid hD (fun i hi => (c7 i hi).1) (fun k hk => (c8 k hk).2.1) ?_
    by_cases cb : cblN (rdT tx n).2 = true
    · rw [if_pos cb]
      obtain ⟨hT2, hh2⟩ := cbl_ok hD cb
      obtain ⟨t1, t2, t3, t4, t5, t6, t7, t8, t9⟩ := id hT2
      have h9 := hh2.1
      refine ⟨fun _ => ?_, fun q => absurd q (by decide)⟩
      refine s_follow (h := (rdT tx n).2.2) hT2 rfl hh2 ⟨fun k hk => (c6 k hk).1, fun i hi => (c7 i hi).2⟩ (fun i hi => (c7 i hi).1) c8 (fun F H W B f5 cp => ?_)
      refine ⟨fun q => absurd q (by decide), fun _ => ⟨rfl, ?_⟩⟩
      refine s_mreadAll a5 a6 a4 (fun e2 sp told mpl mmn mlk msm mti mlo mla mln mho msi mfi msz mkn hm kr => ?_) (fun b e2 => ?_)
      · refine ⟨fun q => absurd rfl q, fun _ => ?_⟩
        obtain ⟨d1, d2, d3, d4, d5, d6, d7, d8⟩ := hm
        refine s_areThere hD d1 d2 d5 (fun i hi => (d7 i hi).1) (fun k hk => (d8 k hk).2.1) ?_
        rw [if_pos cb]
        refine ⟨fun _ => ?_, fun q => absurd q (by decide)⟩
        refine s_lay69 (fun ho2 si2 g1 => s_lay113 (fun sz2 kn2 g2 => ?_))
        refine s_copyX (a := 1) (b := 0) rfl rfl (by omega) (by omega) (by omega) (fun fi2 lo2 la2 ln2 g3 g4 => ?_)
        have z0 : (0 : Int32).toNatClampNeg = 0 := rfl
        have z1 : (1 : Int32).toNatClampNeg = 1 := rfl
        rw [z0, z1, pk_us]
        refine ⟨d2.symm, Or.inr ⟨rfl, rfl, ?_⟩⟩
        refine ⟨tx, n, (rdT tx n).2.1, (rdT tx n).2.2, 0, E, 0, U, 0, G, i1, ?_, ?_, ⟨f5, cp⟩, ?_, ?_, ?_⟩
        · exact ⟨hT2, rfl, rfl, rfl, rfl, ⟨fun k hk => (c6 k hk).1, fun i hi => (c7 i hi).2⟩, fun k hk => (c6 k hk).2, ⟨by rw [pk_us]; exact d1, fun k hk => by rw [(g1 k (by omega)).1]; exact (d6 k hk).1, by rw [pk_us]; exact d2, fun i hi => by rw [(g2 i (by omega)).1, (g2 i (by omega)).2]; exact (d7 i hi).2, by rw [pk_us]; exact d3⟩, fun k hk => by rw [(g1 k (by omega)).2]; exact (d6 k hk).2, by rw [pk_us]; exact d4⟩
        · refine ⟨hh2, rfl, fun i hi => (c7 i hi).1, c8, by rw [pk_us]; exact d5, fun i hi => ?_, fun k hk => ?_⟩
          · have q := g3 i (by omega)
            rw [show 5 * 0 + i = i by omega, show 5 * 1 + i = 5 + i by omega] at q
            rw [q]; exact (d7 i hi).1
          · have q := g4 k (by omega)
            rw [show 9 * 0 + k = k by omega, show 9 * 1 + k = 9 + k by omega] at q
            rw [q.1, q.2.1, q.2.2]; exact d8 k hk
        · exact ⟨⟨by omega, fun k hk => by omega⟩, rfl, fun k hk => by omega, rfl, fun k hk => by omega⟩
        · exact ⟨⟨by omega, fun k hk => by omega, by show 0 ≤ _; omega⟩, rfl, fun k hk => by omega, rfl, fun k hk => by omega⟩
        · exact ⟨by omega, rfl, fun q hq => by omega, fun q => by omega, fun q => by omega, rfl, fun q hq => by omega⟩
      · rw [e] at e2; cases e2
    · rw [if_neg cb]
      refine ⟨fun q => absurd rfl q, fun _ => ⟨fun _ => ?_, fun q => absurd rfl q⟩⟩
      refine s_mreadAll a5 a6 a4 (fun e2 sp told mpl mmn mlk msm mti mlo mla mln mho msi mfi msz mkn hm kr => ?_) (fun b e2 => ?_)
      · refine ⟨fun q => absurd rfl q, fun _ => ?_⟩
        obtain ⟨d1, d2, d3, d4, d5, d6, d7, d8⟩ := hm
        refine s_areThere hD d1 d2 d5 (fun i hi => (d7 i hi).1) (fun k hk => (d8 k hk).2.1) ?_
        rw [if_neg cb]
        obtain ⟨k1, k2, k3, k4, k5, k6, k7, k8, k9, k10, k11, k12, k13⟩ := kr
        exact ⟨fun q => absurd rfl q, fun _ => ⟨rfl, Or.inl ⟨rfl, rfl, ⟨tx, n, T, h, m, E, u, U, kc, G, i1, I2_kr j2 k1 k9 k10 k2 k12 k13 k4 k5, I3_kr i2.1 j3 k11 k3 k6 k7 k8, j4, i5, i6, I7_kp j7 (fun j hj => k11 j (Or.inr hj)) (fun j hj => k3 j (Or.inr hj)) (fun j hj => k6 j (Or.inr hj)) (fun j hj => k7 j (Or.inr hj)) (fun j hj => k8 j (Or.inr hj))⟩⟩⟩⟩
      · rw [e] at e2; cases e2
  · have na : ¬ nI a = (-4 : Int32) := nI_ne4 (by have := rd_lt 301 0 dd0 dok_0 (by omega) e; omega)
    refine ⟨fun _ => ⟨fun _ => ?_, fun q => absurd rfl q⟩, fun q => absurd q na⟩
    refine s_mreadAll a5 a6 a4 (fun e2 => ?_) (fun b e2 sp told pl mn lk sm ti lo la ln ho si fi sz kn kr => ?_)
    · rw [e] at e2; cases e2
    · obtain ⟨k1, k2, k3, k4, k5, k6, k7, k8, k9, k10, k11, k12, k13⟩ := kr
      rw [e] at e2; cases e2
      exact ⟨fun _ => ⟨rfl, Or.inl ⟨rfl, rfl, ⟨tx, n, T, h, m, E, u, U, kc, G, i1, I2_kr j2 k1 k9 k10 k2 k12 k13 k4 k5, I3_kr i2.1 j3 k11 k3 k6 k7 k8, j4, i5, i6, I7_kp j7 (fun j hj => k11 j (Or.inr hj)) (fun j hj => k3 j (Or.inr hj)) (fun j hj => k6 j (Or.inr hj)) (fun j hj => k7 j (Or.inr hj)) (fun j hj => k8 j (Or.inr hj))⟩⟩⟩, fun q => absurd q na⟩
