/-! ===== keeping and taking back ===== -/
def gput (G : Nat → Nat → Nat → Nat) (q : Nat) (h : Nat → Nat → Nat) : Nat → Nat → Nat → Nat := fun j => if j = q then h else G j
theorem gp_s {G : Nat → Nat → Nat → Nat} {q : Nat} {h : Nat → Nat → Nat} : gput G q h q = h := if_pos rfl
theorem gp_n {G : Nat → Nat → Nat → Nat} {q j : Nat} {h : Nat → Nat → Nat} (e : j ≠ q) : gput G q h j = G j := if_neg e
theorem ch_cpy {T h : Nat → Nat → Nat} {lk : Int32} {st lo lp ld s0 o0 p0 d0 : Nat → Int32} (hT : tok T) (hh : hok T h) (hs : chS T h lk st lo lp ld) : chS T h lk (va_cpy st s0 0 0 5) (va_cpy lo o0 0 0 9) (va_cpy lp p0 0 0 9) (va_cpy ld d0 0 0 9) := by
  obtain ⟨a1, a2, a3⟩ := hs
  have t5 := hT.2.2.2.1
  have h9 := hh.1
  have e : ∀ (f g : Nat → Int32) (n k : Nat), k < n → va_cpy f g 0 0 n k = f k := fun f g n k hk => by rw [pk_cpy_in (by omega) (by omega), Nat.zero_add, Nat.sub_zero]
  exact ⟨a1, fun i hi => by rw [e _ _ _ _ (by omega)]; exact a2 i hi, fun k hk => by rw [e _ _ _ _ (by omega), e _ _ _ _ (by omega), e _ _ _ _ (by omega)]; exact a3 k hk⟩
theorem s_copyOf {lk : Int32} {s1 s0 o1 o0 p1 p0 d1 d0 : Nat → Int32} {K : Int32 → (Nat → Int32) → (Nat → Int32) → (Nat → Int32) → (Nat → Int32) → Prop} (h : K lk (va_cpy s1 s0 0 0 5) (va_cpy o1 o0 0 0 9) (va_cpy p1 p0 0 0 9) (va_cpy d1 d0 0 0 9)) : pX2_copyOf lk s1 s0 o1 o0 p1 p0 d1 d0 K := h
theorem s_keepM {T h : Nat → Nat → Nat} {q : Nat} {ff fl lo la ln : Nat → Int32} {x y : Int32} {K : (Nat → Int32) → (Nat → Int32) → (Nat → Int32) → (Nat → Int32) → (Nat → Int32) → Prop} (hT : tok T) (hh : hok T h) (hm : mhd T h ff fl lo la ln) (hq : q < 2) (hx : x = nI 0) (hy : y = nI (2 + q))
    (k : ∀ ff2 fl2 lo2 la2 ln2, mhd T h ff2 fl2 lo2 la2 ln2 → mkp T h q ff2 fl2 lo2 la2 ln2 → (∀ g j, j < 2 → j ≠ q → hok T g → mkp T g j ff fl lo la ln → mkp T g j ff2 fl2 lo2 la2 ln2) → K ff2 fl2 lo2 la2 ln2) : pX9_copy ff fl lo la ln x y K := by
  subst hx hy
  have t5 := hT.2.2.2.1
  have h9 := hh.1
  refine s_copy (a := 0) (b := 2 + q) (by omega) (by omega) (by omega) (fun fi2 lo2 la2 ln2 c1 c2 c3 c4 c5 c6 => ?_)
  refine k _ _ _ _ _ ⟨?_, fun i hi => ?_, fun k hk => ?_⟩ ⟨?_, fun i hi => ?_, fun k hk => ?_⟩ (fun g j hj hjq hg hmk => ⟨?_, fun i hi => ?_, fun k hk => ?_⟩)
  · rw [pk_un (by omega)]; exact hm.1
  · rw [c2 _ (by omega)]; exact hm.2.1 i hi
  · rw [c4 _ (by omega), c5 _ (by omega), c6 _ (by omega)]; exact hm.2.2 k hk
  · rw [pk_us]; exact hm.1
  · rw [c1 i (by omega), show 5 * 0 + i = i by omega]; exact hm.2.1 i hi
  · rw [(c3 k (by omega)).1, (c3 k (by omega)).2.1, (c3 k (by omega)).2.2, show 9 * 0 + k = k by omega]; exact hm.2.2 k hk
  · rw [pk_un (by omega)]; exact hmk.1
  · rw [c2 _ (by omega)]; exact hmk.2.1 i hi
  · have g9 := hg.1
    rw [c4 _ (by omega), c5 _ (by omega), c6 _ (by omega)]; exact hmk.2.2 k hk
theorem s_backM {T h : Nat → Nat → Nat} {q : Nat} {ff fl lo la ln : Nat → Int32} {x y : Int32} {K : (Nat → Int32) → (Nat → Int32) → (Nat → Int32) → (Nat → Int32) → (Nat → Int32) → Prop} (hT : tok T) (hh : hok T h) (hm : mkp T h q ff fl lo la ln) (hq : q < 2) (hx : x = nI (2 + q)) (hy : y = nI 0)
    (k : ∀ ff2 fl2 lo2 la2 ln2, mhd T h ff2 fl2 lo2 la2 ln2 → (∀ g j, j < 2 → mkp T g j ff fl lo la ln → mkp T g j ff2 fl2 lo2 la2 ln2) → K ff2 fl2 lo2 la2 ln2) : pX9_copy ff fl lo la ln x y K := by
  subst hx hy
  have t5 := hT.2.2.2.1
  have h9 := hh.1
  refine s_copy (a := 2 + q) (b := 0) (by omega) (by omega) (by omega) (fun fi2 lo2 la2 ln2 c1 c2 c3 c4 c5 c6 => ?_)
  refine k _ _ _ _ _ ⟨?_, fun i hi => ?_, fun k hk => ?_⟩ (fun g j hj hmk => ⟨?_, fun i hi => ?_, fun k hk => ?_⟩)
  · rw [pk_us]; exact hm.1
  · rw [show i = 5 * 0 + i by omega, c1 i (by omega), show 5 * 0 + i = i by omega]; exact hm.2.1 i hi
  · have e := c3 k (by omega)
    rw [show 9 * 0 + k = k by omega] at e
    rw [e.1, e.2.1, e.2.2]; exact hm.2.2 k hk
  · rw [pk_un (by omega)]; exact hmk.1
  · rw [c2 _ (by omega)]; exact hmk.2.1 i hi
  · rw [c4 _ (by omega), c5 _ (by omega), c6 _ (by omega)]; exact hmk.2.2 k hk
set_option maxHeartbeats 4000000 in
set_option maxRecDepth 100000 in
theorem law_keep {c_text_length : Int32} {cf_text_bytes : Nat → Int32} {c_town_places : Int32} {c_town_skins : Int32} {c_town_smoke : Int32} {c_town_tide : Int32} {cf_town_house : Nat → Int32} {cf_town_view : Nat → Int32} {cf_town_girth : Nat → Int32} {cf_town_kind : Nat → Int32} {c_town_hiding_looks : Int32} {cf_town_hiding_start : Nat → Int32} {cf_town_hiding_looker : Nat → Int32} {cf_town_hiding_lookPlace : Nat → Int32} {cf_town_hiding_lookDay : Nat → Int32} {cf_course_finder : Nat → Int32} {cf_course_prize : Nat → Int32} {cf_course_prizeDay : Nat → Int32} {cB_course_path : Nat → Nat → Int32} {c_sightings_held : Int32} {cf_sightings_skinSeen : Nat → Int32} {cf_sightings_placeSeen : Nat → Int32} {cf_sightings_daySeen : Nat → Int32} {cf_sightings_wasThere : Nat → Int32} {c_changes_held : Int32} {cf_changes_skinHidden : Nat → Int32} {cf_changes_former : Nat → Int32} {c_shelf_held : Int32} {c_shelf_rows_e0_looks : Int32} {cf_shelf_rows_e0_start : Nat → Int32} {cf_shelf_rows_e0_looker : Nat → Int32} {cf_shelf_rows_e0_lookPlace : Nat → Int32} {cf_shelf_rows_e0_lookDay : Nat → Int32} {c_shelf_rows_e1_looks : Int32} {cf_shelf_rows_e1_start : Nat → Int32} {cf_shelf_rows_e1_looker : Nat → Int32} {cf_shelf_rows_e1_lookPlace : Nat → Int32} {cf_shelf_rows_e1_lookDay : Nat → Int32} {m_length : Int32} {mf_text : Nat → Int32} {mf_places : Nat → Int32} {mf_houses : Nat → Int32} {mf_sights : Nat → Int32} {mf_many : Nat → Int32} {mf_sizes : Nat → Int32} {mf_kinds : Nat → Int32} {mf_smoke : Nat → Int32} {mf_tide : Nat → Int32} {mf_firsts : Nat → Int32} {mf_looks : Nat → Int32} {mf_lookOf : Nat → Int32} {mf_lookAt : Nat → Int32} {mf_lookOn : Nat → Int32} {m_keptMany : Int32} {m_undoMany : Int32} {mf_undos : Nat → Int32} {m_seenMany : Int32} {mf_seenOf : Nat → Int32} {mf_seenAt : Nat → Int32} {mf_seenOn : Nat → Int32} {mf_seenThere : Nat → Int32} (hI : PInv c_text_length cf_text_bytes c_town_places c_town_skins c_town_smoke c_town_tide cf_town_house cf_town_view cf_town_girth cf_town_kind c_town_hiding_looks cf_town_hiding_start cf_town_hiding_looker cf_town_hiding_lookPlace cf_town_hiding_lookDay cf_course_finder cf_course_prize cf_course_prizeDay cB_course_path c_sightings_held cf_sightings_skinSeen cf_sightings_placeSeen cf_sightings_daySeen cf_sightings_wasThere c_changes_held cf_changes_skinHidden cf_changes_former c_shelf_held c_shelf_rows_e0_looks cf_shelf_rows_e0_start cf_shelf_rows_e0_looker cf_shelf_rows_e0_lookPlace cf_shelf_rows_e0_lookDay c_shelf_rows_e1_looks cf_shelf_rows_e1_start cf_shelf_rows_e1_looker cf_shelf_rows_e1_lookPlace cf_shelf_rows_e1_lookDay m_length mf_text mf_places mf_houses mf_sights mf_many mf_sizes mf_kinds mf_smoke mf_tide mf_firsts mf_looks mf_lookOf mf_lookAt mf_lookOn m_keptMany m_undoMany mf_undos m_seenMany mf_seenOf mf_seenAt mf_seenOn mf_seenThere)  : pX8_keep c_shelf_held c_town_hiding_looks c_shelf_rows_e0_looks cf_town_hiding_start cf_shelf_rows_e0_start cf_town_hiding_looker cf_shelf_rows_e0_looker cf_town_hiding_lookPlace cf_shelf_rows_e0_lookPlace cf_town_hiding_lookDay cf_shelf_rows_e0_lookDay c_shelf_rows_e1_looks cf_shelf_rows_e1_start cf_shelf_rows_e1_looker cf_shelf_rows_e1_lookPlace cf_shelf_rows_e1_lookDay (fun (r : Int32) (o1 : Int32) (o2 : Int32) (o3 : Nat → Int32) (o4 : Nat → Int32) (o5 : Nat → Int32) (o6 : Nat → Int32) (o7 : Int32) (o8 : Nat → Int32) (o9 : Nat → Int32) (o10 : Nat → Int32) (o11 : Nat → Int32) => pX9_keep m_keptMany mf_firsts mf_looks mf_lookOf mf_lookAt mf_lookOn (fun (r2 : Int32) (p1 : Int32) (p2 : Nat → Int32) (p3 : Nat → Int32) (p4 : Nat → Int32) (p5 : Nat → Int32) (p6 : Nat → Int32) => r = r2 ∧ PInv c_text_length cf_text_bytes c_town_places c_town_skins c_town_smoke c_town_tide cf_town_house cf_town_view cf_town_girth cf_town_kind c_town_hiding_looks cf_town_hiding_start cf_town_hiding_looker cf_town_hiding_lookPlace cf_town_hiding_lookDay cf_course_finder cf_course_prize cf_course_prizeDay cB_course_path c_sightings_held cf_sightings_skinSeen cf_sightings_placeSeen cf_sightings_daySeen cf_sightings_wasThere c_changes_held cf_changes_skinHidden cf_changes_former o1 o2 o3 o4 o5 o6 o7 o8 o9 o10 o11 m_length mf_text mf_places mf_houses mf_sights mf_many mf_sizes mf_kinds mf_smoke mf_tide p2 p3 p4 p5 p6 p1 m_undoMany mf_undos m_seenMany mf_seenOf mf_seenAt mf_seenOn mf_seenThere)) := by
  obtain ⟨tx, n, T, h, m, E, u, U, kc, G, i1, i2, i3, i4, i5, i6, i7⟩ := hI
  have fin : PInv _ _ _ _ _ _ _ _ _ _ _ _ _ _ _ _ _ _ _ _ _ _ _ _ _ _ _ _ _ _ _ _ _ _ _ _ _ _ _ _ _ _ _ _ _ _ _ _ _ _ _ _ _ _ _ _ _ _ _ _ _ := ⟨tx, n, T, h, m, E, u, U, kc, G, i1, i2, i3, i4, i5, i6, i7⟩
  have j2 := i2
  have j4 := i4
  have j6 := i6
  obtain ⟨hT, rfl, rfl, rfl, rfl, hw, hv, hm, hfs, hft⟩ := i2
  obtain ⟨hh, rfl, hst, hl, hmh⟩ := i3
  obtain ⟨he, hB⟩ := i4
  obtain ⟨t1, t2, t3, t4, t5, t6, t7, t8, t9⟩ := id hT
  obtain ⟨m1, m2, m3, m4, m5⟩ := id hm
  obtain ⟨l1, l2, l3⟩ := id hmh
  have hcs := csok_crs hT hh
  have z0 : (0 : Int32).toNatClampNeg = 0 := rfl
  obtain ⟨e1, rfl, e3, e4, e5, rfl, e7⟩ := i7
  unfold pX8_keep pX9_keep pX5_put
  rcases (show kc = 0 ∨ kc = 1 ∨ kc = 2 by omega) with ek | ek | ek
  · subst ek
    refine ⟨fun _ => ⟨vp_in_nI (by omega) (by omega), fun _ => ?_, fun q => absurd q (by decide)⟩, fun q => absurd (by decide) q⟩
    refine s_copyOf ⟨fun q => absurd q (by decide), fun _ => ?_⟩
    refine ⟨fun _ => ?_, fun q => absurd q (by decide)⟩
    refine s_keepM (q := 0) hT hh hmh (by omega) rfl rfl (fun ff2 fl2 lo2 la2 ln2 n1 n2 n3 => ⟨rfl, ?_⟩)
    refine ⟨tx, n, T, h, m, E, u, U, 1, gput G 0 h, i1, j2, ⟨hh, rfl, hst, hl, n1⟩, j4, i5, j6, by omega, rfl, fun q hq => ?_, fun _ => ?_, fun q => ?_, rfl, fun q hq => ?_⟩
    · by_cases c : q = 0
      · subst c; rw [gp_s]; exact hh
      · rw [gp_n c]; exact e3 q (by omega)
    · rw [gp_s]; exact ch_cpy hT hh ⟨rfl, hst, hl⟩
    · exact absurd q (by omega)
    · by_cases c : q = 0
      · subst c; rw [gp_s]; exact n2
      · rw [gp_n c]; exact n3 _ q (by omega) c (e3 q (by omega)) (e7 q (by omega))
  · subst ek
    refine ⟨fun _ => ⟨vp_in_nI (by omega) (by omega), fun q => absurd q (by decide), fun _ => ?_⟩, fun q => absurd (by decide) q⟩
    refine s_copyOf ⟨fun q => absurd q (by decide), fun _ => ?_⟩
    refine ⟨fun _ => ?_, fun q => absurd q (by decide)⟩
    refine s_keepM (q := 1) hT hh hmh (by omega) rfl rfl (fun ff2 fl2 lo2 la2 ln2 n1 n2 n3 => ⟨rfl, ?_⟩)
    refine ⟨tx, n, T, h, m, E, u, U, 2, gput G 1 h, i1, j2, ⟨hh, rfl, hst, hl, n1⟩, j4, i5, j6, by omega, rfl, fun q hq => ?_, fun _ => ?_, fun q => ?_, rfl, fun q hq => ?_⟩
    · by_cases c : q = 1
      · subst c; rw [gp_s]; exact hh
      · rw [gp_n c]; exact e3 q (by omega)
    · rw [gp_n (by omega)]; exact e4 (by omega)
    · rw [gp_s]; exact ch_cpy hT hh ⟨rfl, hst, hl⟩
    · by_cases c : q = 1
      · subst c; rw [gp_s]; exact n2
      · rw [gp_n c]; exact n3 _ q (by omega) c (e3 q (by omega)) (e7 q (by omega))
  · subst ek
    refine ⟨fun q => absurd q (by decide), fun _ => ⟨fun _ => ?_, fun q => absurd rfl q⟩⟩
    exact ⟨fun q => absurd rfl q, fun _ => ⟨rfl, fin⟩⟩
set_option maxHeartbeats 4000000 in
set_option maxRecDepth 100000 in
theorem law_back {c_text_length : Int32} {cf_text_bytes : Nat → Int32} {c_town_places : Int32} {c_town_skins : Int32} {c_town_smoke : Int32} {c_town_tide : Int32} {cf_town_house : Nat → Int32} {cf_town_view : Nat → Int32} {cf_town_girth : Nat → Int32} {cf_town_kind : Nat → Int32} {c_town_hiding_looks : Int32} {cf_town_hiding_start : Nat → Int32} {cf_town_hiding_looker : Nat → Int32} {cf_town_hiding_lookPlace : Nat → Int32} {cf_town_hiding_lookDay : Nat → Int32} {cf_course_finder : Nat → Int32} {cf_course_prize : Nat → Int32} {cf_course_prizeDay : Nat → Int32} {cB_course_path : Nat → Nat → Int32} {c_sightings_held : Int32} {cf_sightings_skinSeen : Nat → Int32} {cf_sightings_placeSeen : Nat → Int32} {cf_sightings_daySeen : Nat → Int32} {cf_sightings_wasThere : Nat → Int32} {c_changes_held : Int32} {cf_changes_skinHidden : Nat → Int32} {cf_changes_former : Nat → Int32} {c_shelf_held : Int32} {c_shelf_rows_e0_looks : Int32} {cf_shelf_rows_e0_start : Nat → Int32} {cf_shelf_rows_e0_looker : Nat → Int32} {cf_shelf_rows_e0_lookPlace : Nat → Int32} {cf_shelf_rows_e0_lookDay : Nat → Int32} {c_shelf_rows_e1_looks : Int32} {cf_shelf_rows_e1_start : Nat → Int32} {cf_shelf_rows_e1_looker : Nat → Int32} {cf_shelf_rows_e1_lookPlace : Nat → Int32} {cf_shelf_rows_e1_lookDay : Nat → Int32} {m_length : Int32} {mf_text : Nat → Int32} {mf_places : Nat → Int32} {mf_houses : Nat → Int32} {mf_sights : Nat → Int32} {mf_many : Nat → Int32} {mf_sizes : Nat → Int32} {mf_kinds : Nat → Int32} {mf_smoke : Nat → Int32} {mf_tide : Nat → Int32} {mf_firsts : Nat → Int32} {mf_looks : Nat → Int32} {mf_lookOf : Nat → Int32} {mf_lookAt : Nat → Int32} {mf_lookOn : Nat → Int32} {m_keptMany : Int32} {m_undoMany : Int32} {mf_undos : Nat → Int32} {m_seenMany : Int32} {mf_seenOf : Nat → Int32} {mf_seenAt : Nat → Int32} {mf_seenOn : Nat → Int32} {mf_seenThere : Nat → Int32} (hI : PInv c_text_length cf_text_bytes c_town_places c_town_skins c_town_smoke c_town_tide cf_town_house cf_town_view cf_town_girth cf_town_kind c_town_hiding_looks cf_town_hiding_start cf_town_hiding_looker cf_town_hiding_lookPlace cf_town_hiding_lookDay cf_course_finder cf_course_prize cf_course_prizeDay cB_course_path c_sightings_held cf_sightings_skinSeen cf_sightings_placeSeen cf_sightings_daySeen cf_sightings_wasThere c_changes_held cf_changes_skinHidden cf_changes_former c_shelf_held c_shelf_rows_e0_looks cf_shelf_rows_e0_start cf_shelf_rows_e0_looker cf_shelf_rows_e0_lookPlace cf_shelf_rows_e0_lookDay c_shelf_rows_e1_looks cf_shelf_rows_e1_start cf_shelf_rows_e1_looker cf_shelf_rows_e1_lookPlace cf_shelf_rows_e1_lookDay m_length mf_text mf_places mf_houses mf_sights mf_many mf_sizes mf_kinds mf_smoke mf_tide mf_firsts mf_looks mf_lookOf mf_lookAt mf_lookOn m_keptMany m_undoMany mf_undos m_seenMany mf_seenOf mf_seenAt mf_seenOn mf_seenThere)  : pX8_back c_town_places c_town_skins c_town_smoke c_shelf_held c_shelf_rows_e0_looks c_town_hiding_looks cf_shelf_rows_e0_start cf_town_hiding_start cf_shelf_rows_e0_looker cf_town_hiding_looker cf_shelf_rows_e0_lookPlace cf_town_hiding_lookPlace cf_shelf_rows_e0_lookDay cf_town_hiding_lookDay c_shelf_rows_e1_looks cf_shelf_rows_e1_start cf_shelf_rows_e1_looker cf_shelf_rows_e1_lookPlace cf_shelf_rows_e1_lookDay c_changes_held cf_course_finder cf_course_prize cf_course_prizeDay cf_town_kind cB_course_path cf_town_house cf_town_girth (fun (r : Int32) (o1 : Int32) (o2 : Int32) (o3 : Nat → Int32) (o4 : Nat → Int32) (o5 : Nat → Int32) (o6 : Nat → Int32) (o7 : Int32) (o8 : Nat → Int32) (o9 : Nat → Int32) (o10 : Nat → Int32) (o11 : Nat → Nat → Int32) => pX9_back m_keptMany m_undoMany mf_firsts mf_looks mf_lookOf mf_lookAt mf_lookOn (fun (r2 : Int32) (p1 : Int32) (p2 : Int32) (p3 : Nat → Int32) (p4 : Nat → Int32) (p5 : Nat → Int32) (p6 : Nat → Int32) (p7 : Nat → Int32) => r = r2 ∧ PInv c_text_length cf_text_bytes c_town_places c_town_skins c_town_smoke c_town_tide cf_town_house cf_town_view cf_town_girth cf_town_kind o2 o3 o4 o5 o6 o8 o9 o10 o11 c_sightings_held cf_sightings_skinSeen cf_sightings_placeSeen cf_sightings_daySeen cf_sightings_wasThere o7 cf_changes_skinHidden cf_changes_former o1 c_shelf_rows_e0_looks cf_shelf_rows_e0_start cf_shelf_rows_e0_looker cf_shelf_rows_e0_lookPlace cf_shelf_rows_e0_lookDay c_shelf_rows_e1_looks cf_shelf_rows_e1_start cf_shelf_rows_e1_looker cf_shelf_rows_e1_lookPlace cf_shelf_rows_e1_lookDay m_length mf_text mf_places mf_houses mf_sights mf_many mf_sizes mf_kinds mf_smoke mf_tide p3 p4 p5 p6 p7 p1 p2 mf_undos m_seenMany mf_seenOf mf_seenAt mf_seenOn mf_seenThere)) := by
  obtain ⟨tx, n, T, h, m, E, u, U, kc, G, i1, i2, i3, i4, i5, i6, i7⟩ := hI
  have fin : PInv _ _ _ _ _ _ _ _ _ _ _ _ _ _ _ _ _ _ _ _ _ _ _ _ _ _ _ _ _ _ _ _ _ _ _ _ _ _ _ _ _ _ _ _ _ _ _ _ _ _ _ _ _ _ _ _ _ _ _ _ _ := ⟨tx, n, T, h, m, E, u, U, kc, G, i1, i2, i3, i4, i5, i6, i7⟩
  have j2 := i2
  have j4 := i4
  have j6 := i6
  obtain ⟨hT, rfl, rfl, rfl, rfl, hw, hv, hm, hfs, hft⟩ := i2
  obtain ⟨hh, rfl, hst, hl, hmh⟩ := i3
  obtain ⟨he, hB⟩ := i4
  obtain ⟨t1, t2, t3, t4, t5, t6, t7, t8, t9⟩ := id hT
  obtain ⟨m1, m2, m3, m4, m5⟩ := id hm
  obtain ⟨l1, l2, l3⟩ := id hmh
  have hcs := csok_crs hT hh
  have z0 : (0 : Int32).toNatClampNeg = 0 := rfl
  obtain ⟨e1, rfl, e3, e4, e5, rfl, e7⟩ := i7
  unfold pX8_back pX9_back pX5_takeLast
  rcases (show kc = 0 ∨ kc = 1 ∨ kc = 2 by omega) with ek | ek | ek
  · subst ek
    refine ⟨fun q => absurd q (by decide), fun _ => ⟨fun q => absurd rfl q, fun _ => ?_⟩⟩
    exact ⟨fun q => absurd rfl q, fun _ => ⟨rfl, fin⟩⟩
  · subst ek
    refine ⟨fun _ => ?_, fun q => absurd (by decide) q⟩
    intro y hy
    have ey : y = nI 0 := hy
    subst ey
    refine ⟨vp_in_nI (by omega) (by omega), fun _ => ?_, fun q => absurd q (by decide)⟩
    have hg := e3 0 (by omega)
    have hc := ch_cpy (s0 := cf_town_hiding_start) (o0 := cf_town_hiding_looker) (p0 := cf_town_hiding_lookPlace) (d0 := cf_town_hiding_lookDay) hT hg (e4 (by omega))
    refine s_copyOf ⟨fun _ => ?_, fun q => absurd q (by decide)⟩
    refine s_follow (h := G 0) hT hc.1 hg hw hc.2.1 hc.2.2 (fun F H W B f5 cp => ?_)
    refine ⟨fun _ => ?_, fun q => absurd q (by decide)⟩
    refine s_backM (q := 0) hT hg (e7 0 (by omega)) (by omega) rfl rfl (fun ff2 fl2 lo2 la2 ln2 n1 n3 => ⟨rfl, ?_⟩)
    refine ⟨tx, n, T, G 0, m, E, 0, U, 0, G, i1, j2, ⟨hg, hc.1, hc.2.1, hc.2.2, n1⟩, ⟨f5, cp⟩, i5, ⟨⟨by omega, fun k hk => by omega, by show 0 ≤ _; omega⟩, rfl, fun k hk => by omega, rfl, fun k hk => by omega⟩, by omega, rfl, fun q hq => e3 q (by omega), fun q => e4 (by omega), fun q => e5 (by omega), rfl, fun q hq => n3 _ q (by omega) (e7 q (by omega))⟩
  · subst ek
    refine ⟨fun _ => ?_, fun q => absurd (by decide) q⟩
    intro y hy
    have ey : y = nI 1 := hy
    subst ey
    refine ⟨vp_in_nI (by omega) (by omega), fun q => absurd q (by decide), fun _ => ?_⟩
    have hg := e3 1 (by omega)
    have hc := ch_cpy (s0 := cf_town_hiding_start) (o0 := cf_town_hiding_looker) (p0 := cf_town_hiding_lookPlace) (d0 := cf_town_hiding_lookDay) hT hg (e5 (by omega))
    refine s_copyOf ⟨fun _ => ?_, fun q => absurd q (by decide)⟩
    refine s_follow (h := G 1) hT hc.1 hg hw hc.2.1 hc.2.2 (fun F H W B f5 cp => ?_)
    refine ⟨fun _ => ?_, fun q => absurd q (by decide)⟩
    refine s_backM (q := 1) hT hg (e7 1 (by omega)) (by omega) rfl rfl (fun ff2 fl2 lo2 la2 ln2 n1 n3 => ⟨rfl, ?_⟩)
    refine ⟨tx, n, T, G 1, m, E, 0, U, 1, G, i1, j2, ⟨hg, hc.1, hc.2.1, hc.2.2, n1⟩, ⟨f5, cp⟩, i5, ⟨⟨by omega, fun k hk => by omega, by show 0 ≤ _; omega⟩, rfl, fun k hk => by omega, rfl, fun k hk => by omega⟩, by omega, rfl, fun q hq => e3 q (by omega), fun q => e4 (by omega), fun q => e5 (by omega), rfl, fun q hq => n3 _ q (by omega) (e7 q (by omega))⟩
