/-! ===== lots ===== -/
def lIn (T : Nat → Nat → Nat) (x : Int32) (k : Nat) : Bool := decide (x = -1) || decide (nI (T 4 k) = x)
def loS (T : Nat → Nat → Nat) (x : Int32) (k s : Nat) : Nat := if lIn T x k = true then s + 2520 / T 5 k else s
def loN (T : Nat → Nat → Nat) (x : Int32) (n : Nat) : Nat := fo (loS T x) n 0
def hvl (x : Int32) : Prop := x = -1 ∨ ∃ g, g ≤ 5 ∧ x = nI g
def loA (x : Int32) (a w : Nat) : Int32 := nI ((if x = 0 then a else w) / Nat.gcd a w)
theorem m1_toInt : (-1 : Int32).toInt = -1 := by decide
theorem p5_toInt : (5 : Int32).toInt = 5 := by decide
theorem hv_ex {x : Int32} : hvl x ↔ -1 ≤ x.toInt ∧ x.toInt ≤ 5 := by
  constructor
  · rintro (rfl | ⟨g, hg, rfl⟩)
    · rw [m1_toInt]; omega
    · rw [nI_toInt (by omega)]; omega
  · rintro ⟨h1, h2⟩
    by_cases c : x.toInt = -1
    · exact Or.inl (Int32.toInt_inj.mp (by rw [c, m1_toInt]))
    · exact Or.inr ⟨x.toInt.toNat, by omega, by apply Int32.toInt_inj.mp; rw [nI_toInt (by omega)]; omega⟩
theorem s_hM {x : Int32} {K : Int32 → Prop} (h1 : hvl x → K 1) (h0 : ¬ hvl x → K 0) : pX9_in x.toInt64 (-1 : Int64) (5 : Int64) K := by
  have e1 : (-1 : Int64).toInt = -1 := by decide
  have e2 : (5 : Int64).toInt = 5 := by decide
  refine s_in (fun q1 q2 => h1 (hv_ex.mpr ?_)) (fun q => h0 (fun z => q ?_))
  · rw [t64, e1] at q1; rw [t64, e2] at q2; exact ⟨q1, q2⟩
  · rw [t64, e1, e2]; exact hv_ex.mp z
theorem s_hC {x : Int32} {A B : Prop} (h1 : hvl x → B) (h0 : ¬ hvl x → A) : (x < (-1) → A) ∧ (¬ (x < (-1)) → ((5 < x → A) ∧ (¬ (5 < x) → B))) := by
  rw [Int32.lt_iff_toInt_lt, Int32.lt_iff_toInt_lt, m1_toInt, p5_toInt]
  exact ⟨fun c => h0 (fun z => by have := hv_ex.mp z; omega), fun c => ⟨fun c2 => h0 (fun z => by have := hv_ex.mp z; omega), fun c2 => h1 (hv_ex.mpr (by omega))⟩⟩
theorem lo_bd {T : Nat → Nat → Nat} {x : Int32} : ∀ n, loN T x n ≤ 2520 * n
  | 0 => Nat.le_refl _
  | n + 1 => by
    have h := lo_bd (T := T) (x := x) n
    have h2 : 2520 / T 5 n ≤ 2520 := Nat.div_le_self _ _
    show loS T x n (loN T x n) ≤ _
    unfold loS; split <;> omega
theorem lo_ge {T : Nat → Nat → Nat} {x : Int32} {a : Nat} (ha : lIn T x a = true) (h1 : 1 ≤ 2520 / T 5 a) : ∀ n, a < n → 1 ≤ loN T x n
  | 0, h => by omega
  | n + 1, h => by
    show 1 ≤ loS T x n (loN T x n)
    by_cases c : a = n
    · subst c; rw [loS, if_pos ha]; omega
    · have := lo_ge ha h1 n (by omega)
      unfold loS; split
      · exact Nat.le_trans this (Nat.le_add_right _ _)
      · exact this
theorem pt_bd {v : Nat} (h1 : 1 ≤ v) (h2 : v ≤ 10) : 252 ≤ 2520 / v ∧ 2520 / v ≤ 2520 := by
  have h3 : v * 252 ≤ 2520 := by omega
  exact ⟨(Nat.le_div_iff_mul_le (by omega)).mpr (by omega), Nat.div_le_self _ _⟩
theorem s_isIn {T : Nat → Nat → Nat} {ho : Nat → Int32} {k : Nat} {x : Int32} {K : Int32 → Prop} (hk : k < 9) (hh : ho k = nI (T 4 k)) (h : K (if lIn T x k = true then 1 else 0)) : pX7_isIn ho (nI k) x K := by
  unfold pX7_isIn
  rw [nI_clamp (by omega), hh]
  unfold lIn at h
  refine ⟨fun c => ?_, fun c => ⟨vp_in_nI (by omega) (by omega), fun c2 => ?_, fun c2 => ?_⟩⟩
  · rw [decide_eq_true c, Bool.true_or, if_pos rfl] at h; exact h
  · rw [decide_eq_false c, decide_eq_false c2, Bool.false_or, if_neg (by decide)] at h; exact h
  · rw [decide_eq_true c2, Bool.or_true, if_pos rfl] at h; exact h
theorem s_partsOf {T : Nat → Nat → Nat} {vi : Nat → Int32} {k : Nat} {K : Int32 → Prop} (hk : k < 9) (hv : vi k = nI (T 5 k)) (h1 : 1 ≤ T 5 k) (h2 : T 5 k ≤ 10) (h : K (nI (2520 / T 5 k))) : pX7_partsOf vi (nI k) K := by
  unfold pX7_partsOf
  have v : vp_in (nI k) 9 := vp_in_nI (by omega) (by omega)
  rw [nI_clamp (by omega), hv]
  refine ⟨v, fun _ => ⟨v, ?_, ?_⟩, fun q => absurd ?_ q⟩
  · rw [show (0 : Int32) = nI 0 from rfl, nI_eq (by omega) (by omega)]; omega
  · rw [show (2520 : Int32) = nI 2520 from rfl, pk_div (by omega) (by omega) (by omega)]; exact h
  · rw [show (1 : Int32) = nI 1 from rfl, nI_leI (by omega) (by omega)]; omega
theorem s_lotsC {T : Nat → Nat → Nat} {x : Int32} {ho vi : Nat → Int32} {K : Int32 → Prop} (hT : tok T) (hho : ∀ k, k < T 0 0 → ho k = nI (T 4 k)) (hvi : ∀ k, k < T 0 0 → vi k = nI (T 5 k)) (h : K (nI (loN T x (T 0 0)))) : ∃ n_ : Nat, it2 (pX8_lots_B61 x (nI (T 0 0)) ho vi K) n_ 0 0 := by
  obtain ⟨t1, t2, t3, t4, t5, t6, t7, t8, t9⟩ := id hT
  refine it2_rule (fun x4 y => ∃ p, p ≤ T 0 0 ∧ y = nI p ∧ x4 = nI (loN T x p)) (fun _ y => T 0 0 + 1 - y.toNatClampNeg) ?_ _ _ ⟨0, by omega, rfl, rfl⟩
  rintro rec x4 y ⟨p, hp, rfl, rfl⟩ hrec
  unfold pX8_lots_B61
  rw [nI_leI (by omega) (by omega)]
  refine br_c (fun c => ?_) (fun c => ?_)
  · have e : p = T 0 0 := by omega
    subst e; exact h
  have hm : T 0 0 + 1 - (nI (p + 1)).toNatClampNeg < T 0 0 + 1 - (nI p).toNatClampNeg := by rw [nI_clamp (by omega), nI_clamp (by omega)]; omega
  have hb : loN T x (p + 1) = loS T x p (loN T x p) := rfl
  have g := t8 p (by omega)
  have hbd := lo_bd (T := T) (x := x) p
  have hp2 := pt_bd g.2.1 g.2.2
  refine s_isIn (by omega) (hho p (by omega)) ?_
  by_cases c2 : lIn T x p = true
  · rw [if_pos c2]
    refine ⟨fun q => absurd q (by decide), fun _ => s_partsOf (by omega) (hvi p (by omega)) g.2.1 g.2.2 ?_⟩
    rw [nI_add, nI_1]
    exact hrec _ _ ⟨p + 1, by omega, rfl, by rw [hb, loS, if_pos c2]⟩ hm
  · rw [if_neg c2]
    refine ⟨fun _ => ?_, fun q => absurd rfl q⟩
    rw [nI_1]
    exact hrec _ _ ⟨p + 1, by omega, rfl, by rw [hb, loS, if_neg c2]⟩ hm
theorem s_lotsM {T : Nat → Nat → Nat} {x : Int32} {fp fh fs : Nat → Int32} {K : Int32 → Prop} (hT : tok T) (hx : hvl x) (hfp : fp 0 = nI (T 0 0)) (hfh : ∀ k, k < T 0 0 → fh k = nI (T 4 k)) (hfs : ∀ k, k < T 0 0 → fs k = nI (T 5 k)) (h : K (nI (loN T x (T 0 0)))) : ∃ n_ : Nat, it2 (pX9_lots_B45 x fp fh fs K) n_ 0 0 := by
  obtain ⟨t1, t2, t3, t4, t5, t6, t7, t8, t9⟩ := id hT
  refine it2_rule (fun x4 y => ∃ p, p ≤ T 0 0 ∧ y = nI p ∧ x4 = nI (loN T x p)) (fun _ y => T 0 0 + 1 - y.toNatClampNeg) ?_ _ _ ⟨0, by omega, rfl, rfl⟩
  rintro rec x4 y ⟨p, hp, rfl, rfl⟩ hrec
  unfold pX9_lots_B45
  rw [show (0 : Int32).toNatClampNeg = 0 from rfl, hfp, nI_leI (by omega) (by omega)]
  refine br_c (fun c => ?_) (fun c => ?_)
  · have e : p = T 0 0 := by omega
    subst e; exact h
  have hm : T 0 0 + 1 - (nI (p + 1)).toNatClampNeg < T 0 0 + 1 - (nI p).toNatClampNeg := by rw [nI_clamp (by omega), nI_clamp (by omega)]; omega
  have hb : loN T x (p + 1) = loS T x p (loN T x p) := rfl
  have g := t8 p (by omega)
  have hbd := lo_bd (T := T) (x := x) p
  have hp2 := pt_bd g.2.1 g.2.2
  have v : vp_in (nI p) 18 := vp_in_nI (by omega) (by omega)
  have e1 : (2520 : Int32) / nI (T 5 p) = nI (2520 / T 5 p) := by rw [show (2520 : Int32) = nI 2520 from rfl, pk_div (by omega) (by omega) (by omega)]
  have e2 : ¬ nI (T 5 p) = (0 : Int32) := by rw [show (0 : Int32) = nI 0 from rfl, nI_eq (by omega) (by omega)]; omega
  have y1 : lIn T x p = true → p + 1 ≤ T 0 0 → rec (nI (loN T x p) + nI (2520 / T 5 p)) (nI (p + 1)) := fun q1 q2 => by
    rw [nI_add]
    exact hrec _ _ ⟨p + 1, q2, rfl, by rw [hb, loS, if_pos q1]⟩ hm
  rw [nI_clamp (by omega), hfs p (by omega), hfh p (by omega), e1, nI_1]
  refine ⟨fun c2 => ⟨v, e2, y1 ?_ (by omega)⟩, fun c2 => ⟨v, fun c3 => ?_, fun c3 => ⟨v, e2, y1 ?_ (by omega)⟩⟩⟩
  · rcases hx with rfl | ⟨q, hq, rfl⟩
    · rfl
    · exact absurd c2 (nI_nneg (by omega))
  · have c4 : ¬ x = -1 := fun z => c2 (by rw [z]; decide)
    rw [show (0 : Int32) = nI 0 from rfl, nI_add]
    refine hrec _ _ ⟨p + 1, by omega, rfl, ?_⟩ hm
    rw [hb, loS, lIn, decide_eq_false c4, decide_eq_false c3, Bool.false_or, if_neg (by decide)]; rfl
  · unfold lIn; rw [decide_eq_true c3, Bool.or_true]
theorem gc_ok {a w : Nat} (ha : 1 ≤ a) (ha2 : a < 2 ^ 15) : 1 ≤ Nat.gcd a w ∧ Nat.gcd a w < 2 ^ 15 := ⟨Nat.gcd_pos_of_pos_left _ ha, Nat.lt_of_le_of_lt (Nat.gcd_le_left _ ha) ha2⟩
theorem g_e0 {a w : Nat} (ha : 1 ≤ a) (ha2 : a < 2 ^ 15) : ¬ nI (Nat.gcd a w) = (0 : Int32) := by
  have g := gc_ok (w := w) ha ha2
  rw [show (0 : Int32) = nI 0 from rfl, nI_eq (by omega) (by omega)]; omega
theorem g_e1 {a w : Nat} (ha : 1 ≤ a) (ha2 : a < 2 ^ 15) : 1 ≤ nI (Nat.gcd a w) := by
  have g := gc_ok (w := w) ha ha2
  rw [show (1 : Int32) = nI 1 from rfl, nI_leI (by omega) (by omega)]; omega
theorem s_gcdM {a w : Nat} {K : Int32 → Prop} (ha : 1 ≤ a) (ha2 : a < 2 ^ 15) (hw2 : w < 2 ^ 15) (h : K (nI (Nat.gcd a w))) : ∃ n_ : Nat, it2 (pX9_lots_B153 K) n_ (nI a) (nI w) := by
  refine it2_rule (fun x y => ∃ l s, x = nI l ∧ y = nI s ∧ l < 2 ^ 15 ∧ s < 2 ^ 15 ∧ Nat.gcd l s = Nat.gcd a w) (fun _ y => y.toNatClampNeg) ?_ _ _ ⟨a, w, rfl, rfl, ha2, hw2, rfl⟩
  rintro rec x y ⟨l, s, rfl, rfl, hl, hs, hg⟩ hrec
  unfold pX9_lots_B153
  have e0 : (nI s = (0 : Int32)) = (s = 0) := by rw [show (0 : Int32) = nI 0 from rfl, nI_eq (by omega) (by omega)]
  rw [e0]
  refine ⟨fun c => ?_, fun c => ⟨c, ?_⟩⟩
  · subst c
    rw [Nat.gcd_zero_right] at hg
    subst hg
    exact h
  · have hm := Nat.mod_lt l (show 0 < s by omega)
    rw [pk_rem (by omega) (by omega) (by omega)]
    refine hrec _ _ ⟨s, l % s, rfl, rfl, by omega, by omega, ?_⟩ (by rw [nI_clamp (by omega), nI_clamp (by omega)]; omega)
    rw [← hg, Nat.gcd_comm s, ← Nat.gcd_rec, Nat.gcd_comm]
set_option maxHeartbeats 4000000 in
set_option maxRecDepth 100000 in
theorem law_lots {c_text_length : Int32} {cf_text_bytes : Nat → Int32} {c_town_places : Int32} {c_town_skins : Int32} {c_town_smoke : Int32} {c_town_tide : Int32} {cf_town_house : Nat → Int32} {cf_town_view : Nat → Int32} {cf_town_girth : Nat → Int32} {cf_town_kind : Nat → Int32} {c_town_hiding_looks : Int32} {cf_town_hiding_start : Nat → Int32} {cf_town_hiding_looker : Nat → Int32} {cf_town_hiding_lookPlace : Nat → Int32} {cf_town_hiding_lookDay : Nat → Int32} {cf_course_finder : Nat → Int32} {cf_course_prize : Nat → Int32} {cf_course_prizeDay : Nat → Int32} {cB_course_path : Nat → Nat → Int32} {c_sightings_held : Int32} {cf_sightings_skinSeen : Nat → Int32} {cf_sightings_placeSeen : Nat → Int32} {cf_sightings_daySeen : Nat → Int32} {cf_sightings_wasThere : Nat → Int32} {c_changes_held : Int32} {cf_changes_skinHidden : Nat → Int32} {cf_changes_former : Nat → Int32} {c_shelf_held : Int32} {c_shelf_rows_e0_looks : Int32} {cf_shelf_rows_e0_start : Nat → Int32} {cf_shelf_rows_e0_looker : Nat → Int32} {cf_shelf_rows_e0_lookPlace : Nat → Int32} {cf_shelf_rows_e0_lookDay : Nat → Int32} {c_shelf_rows_e1_looks : Int32} {cf_shelf_rows_e1_start : Nat → Int32} {cf_shelf_rows_e1_looker : Nat → Int32} {cf_shelf_rows_e1_lookPlace : Nat → Int32} {cf_shelf_rows_e1_lookDay : Nat → Int32} {m_length : Int32} {mf_text : Nat → Int32} {mf_places : Nat → Int32} {mf_houses : Nat → Int32} {mf_sights : Nat → Int32} {mf_many : Nat → Int32} {mf_sizes : Nat → Int32} {mf_kinds : Nat → Int32} {mf_smoke : Nat → Int32} {mf_tide : Nat → Int32} {mf_firsts : Nat → Int32} {mf_looks : Nat → Int32} {mf_lookOf : Nat → Int32} {mf_lookAt : Nat → Int32} {mf_lookOn : Nat → Int32} {m_keptMany : Int32} {m_undoMany : Int32} {mf_undos : Nat → Int32} {m_seenMany : Int32} {mf_seenOf : Nat → Int32} {mf_seenAt : Nat → Int32} {mf_seenOn : Nat → Int32} {mf_seenThere : Nat → Int32} (hI : PInv c_text_length cf_text_bytes c_town_places c_town_skins c_town_smoke c_town_tide cf_town_house cf_town_view cf_town_girth cf_town_kind c_town_hiding_looks cf_town_hiding_start cf_town_hiding_looker cf_town_hiding_lookPlace cf_town_hiding_lookDay cf_course_finder cf_course_prize cf_course_prizeDay cB_course_path c_sightings_held cf_sightings_skinSeen cf_sightings_placeSeen cf_sightings_daySeen cf_sightings_wasThere c_changes_held cf_changes_skinHidden cf_changes_former c_shelf_held c_shelf_rows_e0_looks cf_shelf_rows_e0_start cf_shelf_rows_e0_looker cf_shelf_rows_e0_lookPlace cf_shelf_rows_e0_lookDay c_shelf_rows_e1_looks cf_shelf_rows_e1_start cf_shelf_rows_e1_looker cf_shelf_rows_e1_lookPlace cf_shelf_rows_e1_lookDay m_length mf_text mf_places mf_houses mf_sights mf_many mf_sizes mf_kinds mf_smoke mf_tide mf_firsts mf_looks mf_lookOf mf_lookAt mf_lookOn m_keptMany m_undoMany mf_undos m_seenMany mf_seenOf mf_seenAt mf_seenOn mf_seenThere) (x1 : Int32) (x2 : Int32) (x3 : Int32) : pX8_lots c_town_places cf_town_house cf_town_view x1 x2 x3 (fun (r : Int32)  => pX9_lots mf_places mf_houses mf_sights x1 x2 x3 (fun (r2 : Int32)  => r = r2 ∧ PInv c_text_length cf_text_bytes c_town_places c_town_skins c_town_smoke c_town_tide cf_town_house cf_town_view cf_town_girth cf_town_kind c_town_hiding_looks cf_town_hiding_start cf_town_hiding_looker cf_town_hiding_lookPlace cf_town_hiding_lookDay cf_course_finder cf_course_prize cf_course_prizeDay cB_course_path c_sightings_held cf_sightings_skinSeen cf_sightings_placeSeen cf_sightings_daySeen cf_sightings_wasThere c_changes_held cf_changes_skinHidden cf_changes_former c_shelf_held c_shelf_rows_e0_looks cf_shelf_rows_e0_start cf_shelf_rows_e0_looker cf_shelf_rows_e0_lookPlace cf_shelf_rows_e0_lookDay c_shelf_rows_e1_looks cf_shelf_rows_e1_start cf_shelf_rows_e1_looker cf_shelf_rows_e1_lookPlace cf_shelf_rows_e1_lookDay m_length mf_text mf_places mf_houses mf_sights mf_many mf_sizes mf_kinds mf_smoke mf_tide mf_firsts mf_looks mf_lookOf mf_lookAt mf_lookOn m_keptMany m_undoMany mf_undos m_seenMany mf_seenOf mf_seenAt mf_seenOn mf_seenThere)) := by
  obtain ⟨tx, n, T, h, m, E, u, U, kc, G, i1, i2, i3, i4, i5, i6, i7⟩ := hI
  have fin : PInv _ _ _ _ _ _ _ _ _ _ _ _ _ _ _ _ _ _ _ _ _ _ _ _ _ _ _ _ _ _ _ _ _ _ _ _ _ _ _ _ _ _ _ _ _ _ _ _ _ _ _ _ _ _ _ _ _ _ _ _ _ := ⟨tx, n, T, h, m, E, u, U, kc, G, i1, i2, i3, i4, i5, i6, i7⟩
  obtain ⟨hT, rfl, rfl, rfl, rfl, hw, hv, hm, hfs, hft⟩ := i2
  obtain ⟨hh, rfl, hst, hl, hmh⟩ := i3
  obtain ⟨he, hB⟩ := i4
  obtain ⟨t1, t2, t3, t4, t5, t6, t7, t8, t9⟩ := id hT
  obtain ⟨m1, m2, m3, m4, m5⟩ := id hm
  obtain ⟨l1, l2, l3⟩ := id hmh
  have hcs := csok_crs hT hh
  have z0 : (0 : Int32).toNatClampNeg = 0 := rfl
  unfold pX8_lots pX9_lots
  have hbd := lo_bd (T := T) (x := x2) (T 0 0)
  have eN : (2520 : Int32) = nI 2520 := rfl
  have e1N : (1 : Int32) = nI 1 := rfl
  have e0N : (nI (loN T x2 (T 0 0)) = (0 : Int32)) = (loN T x2 (T 0 0) = 0) := by rw [show (0 : Int32) = nI 0 from rfl, nI_eq (by omega) (by omega)]
  have e1M : ((1 : Int32) ≤ nI (loN T x2 (T 0 0))) = (1 ≤ loN T x2 (T 0 0)) := by rw [e1N, nI_leI (by omega) (by omega)]
  by_cases hx : x1 = -1
  · subst hx
    refine ⟨fun _ => ?_, fun q => absurd rfl q⟩
    refine s_hC (fun hv2 => ?_) (fun hv2 => ?_)
    · refine s_isZeroOrOne (fun hz => ⟨fun _ => ⟨fun _ => ?_, fun q => absurd rfl q⟩, fun q => absurd q (by decide)⟩) (fun hz => ⟨fun q => absurd rfl q, fun _ => ?_⟩)
      · refine s_lotsC hT hw.1 hv ?_
        rw [e1M]
        refine ⟨fun c => ⟨fun q => absurd rfl q, fun _ => ?_⟩, fun c => ?_⟩
        · have ge0 := g_e0 (a := 252) (w := loN T x2 (T 0 0)) (by omega) (by omega)
          refine s_commonDivisor (a := 252) (by omega) (by omega) ⟨fun _ => ⟨fun cz => ⟨ge0, ?_⟩, fun cz => ⟨ge0, ?_⟩⟩, fun q => absurd (g_e1 (by omega) (by omega)) q⟩
          all_goals
            refine ⟨fun _ => ?_, fun q => absurd rfl q⟩
            refine s_hM (fun _ => ⟨fun q => absurd q (by decide), fun _ => ?_⟩) (fun q => absurd hv2 q)
            refine s_in0 (k := 1) (by decide) (by omega) (fun _ => ⟨fun _ => ?_, fun q => absurd q (by decide)⟩) (fun q => absurd hz q)
            refine s_lotsM hT hv2 m1 m2 hfs ?_
            rw [e0N]
            refine ⟨fun q => absurd c (by omega), fun _ => ⟨fun _ => ⟨fun q => absurd q (by decide), fun _ => ?_⟩, fun q => absurd (by decide) q⟩⟩
            refine s_gcdM (a := 252) (by omega) (by omega) (by omega) ?_
          · exact ⟨fun _ => ⟨ge0, rfl, fin⟩, fun q => absurd q cz⟩
          · exact ⟨fun q => absurd cz q, fun _ => ⟨ge0, rfl, fin⟩⟩
        · refine ⟨fun _ => ?_, fun q => absurd rfl q⟩
          refine s_hM (fun _ => ⟨fun q => absurd q (by decide), fun _ => ?_⟩) (fun q => absurd hv2 q)
          refine s_in0 (k := 1) (by decide) (by omega) (fun _ => ⟨fun _ => ?_, fun q => absurd q (by decide)⟩) (fun q => absurd hz q)
          refine s_lotsM hT hv2 m1 m2 hfs ?_
          rw [e0N]
          exact ⟨fun _ => ⟨rfl, fin⟩, fun q => absurd (by omega) q⟩
      · refine ⟨fun _ => ?_, fun q => absurd rfl q⟩
        refine s_hM (fun _ => ⟨fun q => absurd q (by decide), fun _ => ?_⟩) (fun q => absurd hv2 q)
        exact s_in0 (k := 1) (by decide) (by omega) (fun q => absurd q hz) (fun _ => ⟨fun q => absurd rfl q, fun _ => ⟨rfl, fin⟩⟩)
    · refine ⟨fun _ => ?_, fun q => absurd rfl q⟩
      exact s_hM (fun q => absurd q hv2) (fun _ => ⟨fun _ => ⟨rfl, fin⟩, fun q => absurd rfl q⟩)
  · refine ⟨fun q => absurd q hx, fun _ => ?_⟩
    refine s_hasPlace (by omega) (fun hp => ⟨fun q => absurd q (by decide), fun _ => ?_⟩) (fun hp => ⟨fun _ => ?_, fun q => absurd rfl q⟩)
    · obtain ⟨a, ha, rfl⟩ := hp
      have g := t8 a ha
      have hp2 := pt_bd g.2.1 g.2.2
      have v18 : vp_in (nI a) 18 := vp_in_nI (by omega) (by omega)
      have ed : (2520 : Int32) / nI (T 5 a) = nI (2520 / T 5 a) := by rw [eN, pk_div (by omega) (by omega) (by omega)]
      have ez : ¬ nI (T 5 a) = (0 : Int32) := by rw [show (0 : Int32) = nI 0 from rfl, nI_eq (by omega) (by omega)]; omega
      have ep : (0 : Int32) ≤ nI a := by rw [show (0 : Int32) = nI 0 from rfl, nI_leI (by omega) (by omega)]; omega
      rw [nI_clamp (by omega), hfs a ha, m2 a ha, ed]
      refine s_hC (fun hv2 => ?_) (fun hv2 => ?_)
      · refine s_isZeroOrOne (fun hz => ⟨fun _ => ⟨fun q => absurd q hx, fun _ => ?_⟩, fun q => absurd q (by decide)⟩) (fun hz => ⟨fun q => absurd rfl q, fun _ => ?_⟩)
        · refine s_isIn (by omega) (hw.1 a ha) ?_
          by_cases c2 : lIn T x2 a = true
          · rw [if_pos c2]
            have hge := lo_ge c2 (by omega) (T 0 0) ha
            refine ⟨fun _ => ?_, fun q => absurd q (by decide)⟩
            refine s_lotsC hT hw.1 hv ?_
            rw [e1M]
            refine ⟨fun c => ⟨fun _ => ?_, fun q => absurd q hx⟩, fun c => absurd hge c⟩
            refine s_partsOf (by omega) (hv a ha) g.2.1 g.2.2 ?_
            have ge0 := g_e0 (a := 2520 / T 5 a) (w := loN T x2 (T 0 0)) (by omega) (by omega)
            refine s_commonDivisor (a := 2520 / T 5 a) (by omega) (by omega) ⟨fun _ => ⟨fun cz => ⟨ge0, ?_⟩, fun cz => ⟨ge0, ?_⟩⟩, fun q => absurd (g_e1 (by omega) (by omega)) q⟩
            all_goals
              refine ⟨fun q => absurd q hx, fun _ => ?_⟩
              refine s_isPlace (by omega) m1 (fun _ => ⟨fun q => absurd q (by decide), fun _ => ?_⟩) (fun q => absurd ⟨a, ha, rfl⟩ q)
              refine s_hM (fun _ => ⟨fun q => absurd q (by decide), fun _ => ?_⟩) (fun q => absurd hv2 q)
              refine s_in0 (k := 1) (by decide) (by omega) (fun _ => ⟨fun _ => ?_, fun q => absurd q (by decide)⟩) (fun q => absurd hz q)
              refine s_lotsM hT hv2 m1 m2 hfs ?_
              rw [e0N]
              refine ⟨fun q => absurd hge (by omega), fun _ => ⟨fun q => absurd q (nI_nneg (by omega)), fun _ => ⟨fun _ => ⟨fun _ => ⟨v18, ez, ?_⟩, fun q => absurd ep q⟩, fun c3 => ⟨v18, fun _ => ⟨fun _ => ⟨v18, ez, ?_⟩, fun q => absurd ep q⟩, fun c4 => ?_⟩⟩⟩⟩
              all_goals first
                | (refine s_gcdM (a := 2520 / T 5 a) (by omega) (by omega) (by omega) ?_; exact ⟨fun _ => ⟨ge0, rfl, fin⟩, fun q => absurd q cz⟩)
                | (refine s_gcdM (a := 2520 / T 5 a) (by omega) (by omega) (by omega) ?_; exact ⟨fun q => absurd cz q, fun _ => ⟨ge0, rfl, fin⟩⟩)
                | (unfold lIn at c2; rw [decide_eq_false c4, Bool.or_false] at c2; exact absurd (by rw [of_decide_eq_true c2]; decide) c3)
          · rw [if_neg c2]
            refine ⟨fun q => absurd rfl q, fun _ => ?_⟩
            refine ⟨fun q => absurd q hx, fun _ => ?_⟩
            refine s_isPlace (by omega) m1 (fun _ => ⟨fun q => absurd q (by decide), fun _ => ?_⟩) (fun q => absurd ⟨a, ha, rfl⟩ q)
            refine s_hM (fun _ => ⟨fun q => absurd q (by decide), fun _ => ?_⟩) (fun q => absurd hv2 q)
            refine s_in0 (k := 1) (by decide) (by omega) (fun _ => ⟨fun _ => ?_, fun q => absurd q (by decide)⟩) (fun q => absurd hz q)
            refine s_lotsM hT hv2 m1 m2 hfs ?_
            rw [e0N]
            have c3 : ¬ x2 = -1 := fun z => c2 (by rw [z]; rfl)
            have c4 : ¬ nI (T 4 a) = x2 := fun z => c2 (by unfold lIn; rw [decide_eq_true z, Bool.or_true])
            refine ⟨fun _ => ⟨rfl, fin⟩, fun _ => ⟨fun q => absurd q (nI_nneg (by omega)), fun _ => ⟨fun q => ?_, fun _ => ⟨v18, fun q => absurd q c4, fun _ => ⟨rfl, fin⟩⟩⟩⟩⟩
            rcases hv2 with z | ⟨j, hj, rfl⟩
            · exact absurd z c3
            · exact absurd q (nI_nneg (by omega))
        · refine ⟨fun q => absurd q hx, fun _ => ?_⟩
          refine s_isPlace (by omega) m1 (fun _ => ⟨fun q => absurd q (by decide), fun _ => ?_⟩) (fun q => absurd ⟨a, ha, rfl⟩ q)
          refine s_hM (fun _ => ⟨fun q => absurd q (by decide), fun _ => ?_⟩) (fun q => absurd hv2 q)
          exact s_in0 (k := 1) (by decide) (by omega) (fun q => absurd q hz) (fun _ => ⟨fun q => absurd rfl q, fun _ => ⟨rfl, fin⟩⟩)
      · refine ⟨fun q => absurd q hx, fun _ => ?_⟩
        refine s_isPlace (by omega) m1 (fun _ => ⟨fun q => absurd q (by decide), fun _ => ?_⟩) (fun q => absurd ⟨a, ha, rfl⟩ q)
        exact s_hM (fun q => absurd q hv2) (fun _ => ⟨fun _ => ⟨rfl, fin⟩, fun q => absurd rfl q⟩)
    · refine ⟨fun q => absurd q hx, fun _ => ?_⟩
      exact s_isPlace (by omega) m1 (fun q => absurd q hp) (fun _ => ⟨fun _ => ⟨rfl, fin⟩, fun q => absurd rfl q⟩)
