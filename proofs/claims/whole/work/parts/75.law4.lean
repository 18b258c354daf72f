/-! ===== the bytes of a long ===== -/
theorem i8_mod (m : Nat) : (nI m).toInt8 = (nI (m % 256)).toInt8 := by
  have h : ∀ q : Nat, (nI q).toInt = (q : Int).bmod (2 ^ 32) := fun q => (show (BitVec.ofNat 32 q).toInt = _ from BitVec.toInt_ofNat ..)
  have h2 : ∀ q : Nat, ((q : Int).bmod (2 ^ 32)).bmod (2 ^ 8) = (q : Int).bmod (2 ^ 8) := fun q => Int.bmod_bmod_of_dvd (by decide)
  apply Int8.toInt_inj.mp
  rw [Int32.toInt_toInt8, Int32.toInt_toInt8, h, h, h2, h2]
  show (m : Int).bmod 256 = ((m % 256 : Nat) : Int).bmod 256
  rw [Int.natCast_emod]
  exact (Int.emod_bmod (m : Int) 256).symm
theorem by_c {n j : Nat} (hn : n < 2 ^ 64) (hj : j < 8) : vp_nar .byte ((lN n).toUInt64 >>> (((8 : Int32) * nI j).toInt64.toUInt64 &&& Int64.toUInt64 63)).toInt64.toInt32.toInt8.toInt32 = sb (n / 2 ^ (8 * j) % 256) := by
  rw [show (8 : Int32) = nI 8 from rfl, pk_mul, wb_shr hn (by omega), lN_i, pk_vb, i8_mod]
  rfl
theorem sr_byte (x : BitVec 64) (n : Nat) (hn : n ≤ 56) : (x.sshiftRight n &&& 255#64).toNat = x.toNat / 2 ^ n % 256 := by
  apply Nat.eq_of_testBit_eq
  intro i
  rw [BitVec.testBit_toNat, BitVec.getLsbD_and, BitVec.getLsbD_sshiftRight, show 256 = 2 ^ 8 from rfl, Nat.testBit_mod_two_pow, ← Nat.shiftRight_eq_div_pow, Nat.testBit_shiftRight, BitVec.testBit_toNat]
  have e : (255#64).getLsbD i = decide (i < 8) := by
    rw [← BitVec.testBit_toNat, show (255#64).toNat = 2 ^ 8 - 1 from rfl, Nat.testBit_two_pow_sub_one]
  rw [e]
  by_cases c : i < 8
  · rw [if_pos (by omega), decide_eq_true c, decide_eq_false (show ¬ 64 ≤ i by omega)]; simp
  · rw [decide_eq_false c]; simp
theorem by_sm : ∀ j, j < 8 → (((8 : Int32) * nI j).toInt64 &&& (63 : Int64)).toBitVec.smod 64 = BitVec.ofNat 64 (8 * j) := by decide +kernel
theorem by_m {n j : Nat} (hn : n < 2 ^ 64) (hj : j < 8) : (((lN n) >>> (((8 : Int32) * nI j).toInt64 &&& (63 : Int64))) &&& (255 : Int64)).toInt32 = nI (n / 2 ^ (8 * j) % 256) := by
  rw [← lN_i (n / 2 ^ (8 * j) % 256)]
  congr 1
  apply wb_inj
  apply BitVec.eq_of_toNat_eq
  have hlt : n / 2 ^ (8 * j) % 256 < 256 := Nat.mod_lt _ (by decide)
  rw [Int64.toBitVec_and, Int64.toBitVec_shiftRight, by_sm j hj, wb_tn (show n / 2 ^ (8 * j) % 256 < 2 ^ 64 by omega)]
  have e : (BitVec.ofNat 64 (8 * j)).toNat = 8 * j := by rw [BitVec.toNat_ofNat, Nat.mod_eq_of_lt (by omega)]
  show (BitVec.sshiftRight (lN n).toBitVec (BitVec.ofNat 64 (8 * j)).toNat &&& 255#64).toNat = _
  rw [e, sr_byte _ _ (by omega), wb_tn hn]
def txw (tx : Nat → Nat) (n c v : Nat) : Nat → Nat := fun k => if n ≤ k then v / 2 ^ (8 * (n + c - 1 - k)) % 256 else tx k
theorem txw_lt {tx : Nat → Nat} {n c v : Nat} (h : ∀ k, tx k < 256) : ∀ k, txw tx n c v k < 256 := fun k => by
  unfold txw; split
  · exact Nat.mod_lt _ (by decide)
  · exact h k
theorem s_append {tx : Nat → Nat} {n c v : Nat} {f : Nat → Int32} {K : Int32 → (Nat → Int32) → Prop} (hv : v < 2 ^ 64) (hc : 1 ≤ c) (hc8 : c ≤ 8) (hn : n + c ≤ 300) (hf : cby tx n f)
    (k : ∀ g, cby (txw tx n c v) (n + c) g → K (nI (n + c)) g) : pX3_append (nI n) f (nI c) (lN v) K := by
  unfold pX3_append
  refine it3_rule (fun x y g => ∃ p, p ≤ c ∧ x = nI (c - p) - 1 ∧ y = nI (n + p) ∧ cby (txw tx n c v) (n + p) g) (fun _ y _ => n + c + 1 - y.toNatClampNeg) ?_ _ _ _ ⟨0, by omega, rfl, rfl, fun k hk => by rw [txw, if_neg (by omega)]; exact hf k hk⟩
  rintro rec x y g ⟨p, hp, rfl, rfl, hg⟩ hrec
  unfold pX3_append_B5
  refine ⟨fun q => ?_, fun q => ⟨fun q2 => ?_, fun q2 => ⟨?_, ?_⟩⟩⟩
  · have e : p = c := by
      by_cases z : p = c
      · exact z
      · rw [show (1 : Int32) = nI 1 from rfl, pk_sub (by omega)] at q
        exact absurd q (nI_nneg (by omega))
    subst e; exact k g hg
  all_goals
    have hlt : p < c := by
      by_cases z : p = c
      · subst z; rw [Nat.sub_self] at q; exact absurd (by decide) q
      · omega
  · rw [show (300 : Int32) = nI 300 from rfl, nI_leI (by omega) (by omega)] at q2; omega
  · exact vp_in_nI (by omega) (by omega)
  · obtain ⟨j, hj⟩ : ∃ j, c - p = j + 1 := ⟨c - p - 1, by omega⟩
    rw [hj, show (1 : Int32) = nI 1 from rfl, pk_sub (by omega), Nat.add_sub_cancel, by_c hv (by omega), nI_clamp (by omega), ← show (1 : Int32) = nI 1 from rfl, nI_1]
    refine hrec _ _ _ ⟨p + 1, by omega, ?_, by rw [Nat.add_assoc], fun k hk => ?_⟩ (by rw [nI_clamp (by omega), nI_clamp (by omega)]; omega)
    · rw [show c - (p + 1) = j by omega]; exact (Int32.sub_eq_add_neg _ _).symm
    · by_cases e : k = n + p
      · subst e
        rw [pk_us, txw, if_pos (by omega), show n + c - 1 - (n + p) = j by omega]
      · rw [pk_un e]; exact hg k (by omega)
theorem s_writeM {tx : Nat → Nat} {n c v : Nat} {f : Nat → Int32} {K : Int32 → (Nat → Int32) → Prop} (hv : v < 2 ^ 64) (hc : 1 ≤ c) (hc8 : c ≤ 8) (hn : n + c ≤ 300) (hf : mby tx n f)
    (k : ∀ g, mby (txw tx n c v) (n + c) g → K (nI (n + c)) g) : ∃ n_ : Nat, it3 (pX9_write_B34 (lN v) K) n_ (nI c - 1) (nI n) f := by
  refine it3_rule (fun x y g => ∃ p, p ≤ c ∧ x = nI (c - p) - 1 ∧ y = nI (n + p) ∧ mby (txw tx n c v) (n + p) g) (fun _ y _ => n + c + 1 - y.toNatClampNeg) ?_ _ _ _ ⟨0, by omega, rfl, rfl, fun k hk => by rw [txw, if_neg (by omega)]; exact hf k hk⟩
  rintro rec x y g ⟨p, hp, rfl, rfl, hg⟩ hrec
  unfold pX9_write_B34
  refine ⟨fun q => ?_, fun q => ⟨?_, ?_⟩⟩
  · have e : p = c := by
      by_cases z : p = c
      · exact z
      · rw [show (1 : Int32) = nI 1 from rfl, pk_sub (by omega)] at q
        exact absurd q (nI_nneg (by omega))
    subst e; exact k g hg
  all_goals
    have hlt : p < c := by
      by_cases z : p = c
      · subst z; rw [Nat.sub_self] at q; exact absurd (by decide) q
      · omega
  · exact vp_in_nI (by omega) (by omega)
  · obtain ⟨j, hj⟩ : ∃ j, c - p = j + 1 := ⟨c - p - 1, by omega⟩
    rw [hj, show (1 : Int32) = nI 1 from rfl, pk_sub (by omega), Nat.add_sub_cancel, by_m hv (by omega), nI_clamp (by omega), ← show (1 : Int32) = nI 1 from rfl, nI_1]
    refine hrec _ _ _ ⟨p + 1, by omega, ?_, by rw [Nat.add_assoc], fun k hk => ?_⟩ (by rw [nI_clamp (by omega), nI_clamp (by omega)]; omega)
    · rw [show c - (p + 1) = j by omega]; exact (Int32.sub_eq_add_neg _ _).symm
    · by_cases e : k = n + p
      · subst e
        rw [pk_us, txw, if_pos (by omega), show n + c - 1 - (n + p) = j by omega]
      · rw [pk_un e]; exact hg k (by omega)
/-! ===== what was seen, one more ===== -/
def eput (E : Nat → Nat → Nat) (m a p d z : Nat) : Nat → Nat → Nat := fun f k => if k = m then (if f = 0 then a else if f = 1 then p else if f = 2 then d else z) else E f k
theorem csn_put {m a p d z : Nat} {E : Nat → Nat → Nat} {sk pl dy th : Nat → Int32} (h : csn m E sk pl dy th) : csn (m + 1) (eput E m a p d z) (upd sk m (nI a)) (upd pl m (nI p)) (upd dy m (nI d)) (upd th m (nI z)) := fun k hk => by
  by_cases e : k = m
  · subst e
    rw [pk_us, pk_us, pk_us, pk_us]
    rw [show eput E k a p d z 0 k = a by simp [eput], show eput E k a p d z 1 k = p by simp [eput], show eput E k a p d z 2 k = d by simp [eput], show eput E k a p d z 3 k = z by simp [eput]]
    exact ⟨rfl, rfl, rfl, rfl⟩
  · rw [pk_un e, pk_un e, pk_un e, pk_un e]
    unfold eput
    rw [if_neg e, if_neg e, if_neg e, if_neg e]
    exact h k (by omega)
theorem eok_put {T E : Nat → Nat → Nat} {m a p d z : Nat} (h : eok T m E) (hm : m < 8) (ha : a < T 1 0) (hp : p < T 0 0) (hd : 1 ≤ d) (hd2 : d ≤ 60) (hz : z ≤ 1) : eok T (m + 1) (eput E m a p d z) := by
  refine ⟨by omega, fun k hk => ?_⟩
  by_cases e : k = m
  · subst e
    rw [show eput E k a p d z 0 k = a by simp [eput], show eput E k a p d z 1 k = p by simp [eput], show eput E k a p d z 2 k = d by simp [eput], show eput E k a p d z 3 k = z by simp [eput]]
    exact ⟨ha, hp, hd, hd2, hz⟩
  · unfold eput
    rw [if_neg e, if_neg e, if_neg e, if_neg e]
    exact h.2 k (by omega)
set_option maxHeartbeats 4000000 in
set_option maxRecDepth 100000 in
theorem law_write {c_text_length : Int32} {cf_text_bytes : Nat → Int32} {c_town_places : Int32} {c_town_skins : Int32} {c_town_smoke : Int32} {c_town_tide : Int32} {cf_town_house : Nat → Int32} {cf_town_view : Nat → Int32} {cf_town_girth : Nat → Int32} {cf_town_kind : Nat → Int32} {c_town_hiding_looks : Int32} {cf_town_hiding_start : Nat → Int32} {cf_town_hiding_looker : Nat → Int32} {cf_town_hiding_lookPlace : Nat → Int32} {cf_town_hiding_lookDay : Nat → Int32} {cf_course_finder : Nat → Int32} {cf_course_prize : Nat → Int32} {cf_course_prizeDay : Nat → Int32} {cB_course_path : Nat → Nat → Int32} {c_sightings_held : Int32} {cf_sightings_skinSeen : Nat → Int32} {cf_sightings_placeSeen : Nat → Int32} {cf_sightings_daySeen : Nat → Int32} {cf_sightings_wasThere : Nat → Int32} {c_changes_held : Int32} {cf_changes_skinHidden : Nat → Int32} {cf_changes_former : Nat → Int32} {c_shelf_held : Int32} {c_shelf_rows_e0_looks : Int32} {cf_shelf_rows_e0_start : Nat → Int32} {cf_shelf_rows_e0_looker : Nat → Int32} {cf_shelf_rows_e0_lookPlace : Nat → Int32} {cf_shelf_rows_e0_lookDay : Nat → Int32} {c_shelf_rows_e1_looks : Int32} {cf_shelf_rows_e1_start : Nat → Int32} {cf_shelf_rows_e1_looker : Nat → Int32} {cf_shelf_rows_e1_lookPlace : Nat → Int32} {cf_shelf_rows_e1_lookDay : Nat → Int32} {m_length : Int32} {mf_text : Nat → Int32} {mf_places : Nat → Int32} {mf_houses : Nat → Int32} {mf_sights : Nat → Int32} {mf_many : Nat → Int32} {mf_sizes : Nat → Int32} {mf_kinds : Nat → Int32} {mf_smoke : Nat → Int32} {mf_tide : Nat → Int32} {mf_firsts : Nat → Int32} {mf_looks : Nat → Int32} {mf_lookOf : Nat → Int32} {mf_lookAt : Nat → Int32} {mf_lookOn : Nat → Int32} {m_keptMany : Int32} {m_undoMany : Int32} {mf_undos : Nat → Int32} {m_seenMany : Int32} {mf_seenOf : Nat → Int32} {mf_seenAt : Nat → Int32} {mf_seenOn : Nat → Int32} {mf_seenThere : Nat → Int32} (hI : PInv c_text_length cf_text_bytes c_town_places c_town_skins c_town_smoke c_town_tide cf_town_house cf_town_view cf_town_girth cf_town_kind c_town_hiding_looks cf_town_hiding_start cf_town_hiding_looker cf_town_hiding_lookPlace cf_town_hiding_lookDay cf_course_finder cf_course_prize cf_course_prizeDay cB_course_path c_sightings_held cf_sightings_skinSeen cf_sightings_placeSeen cf_sightings_daySeen cf_sightings_wasThere c_changes_held cf_changes_skinHidden cf_changes_former c_shelf_held c_shelf_rows_e0_looks cf_shelf_rows_e0_start cf_shelf_rows_e0_looker cf_shelf_rows_e0_lookPlace cf_shelf_rows_e0_lookDay c_shelf_rows_e1_looks cf_shelf_rows_e1_start cf_shelf_rows_e1_looker cf_shelf_rows_e1_lookPlace cf_shelf_rows_e1_lookDay m_length mf_text mf_places mf_houses mf_sights mf_many mf_sizes mf_kinds mf_smoke mf_tide mf_firsts mf_looks mf_lookOf mf_lookAt mf_lookOn m_keptMany m_undoMany mf_undos m_seenMany mf_seenOf mf_seenAt mf_seenOn mf_seenThere) (x1 : Int32) (x2 : Int64) : pX8_write c_text_length cf_text_bytes x1 x2 (fun (r : Int32) (o1 : Int32) (o2 : Nat → Int32) => pX9_write m_length mf_text x1 x2 (fun (r2 : Int32) (p1 : Int32) (p2 : Nat → Int32) => r = r2 ∧ PInv o1 o2 c_town_places c_town_skins c_town_smoke c_town_tide cf_town_house cf_town_view cf_town_girth cf_town_kind c_town_hiding_looks cf_town_hiding_start cf_town_hiding_looker cf_town_hiding_lookPlace cf_town_hiding_lookDay cf_course_finder cf_course_prize cf_course_prizeDay cB_course_path c_sightings_held cf_sightings_skinSeen cf_sightings_placeSeen cf_sightings_daySeen cf_sightings_wasThere c_changes_held cf_changes_skinHidden cf_changes_former c_shelf_held c_shelf_rows_e0_looks cf_shelf_rows_e0_start cf_shelf_rows_e0_looker cf_shelf_rows_e0_lookPlace cf_shelf_rows_e0_lookDay c_shelf_rows_e1_looks cf_shelf_rows_e1_start cf_shelf_rows_e1_looker cf_shelf_rows_e1_lookPlace cf_shelf_rows_e1_lookDay p1 p2 mf_places mf_houses mf_sights mf_many mf_sizes mf_kinds mf_smoke mf_tide mf_firsts mf_looks mf_lookOf mf_lookAt mf_lookOn m_keptMany m_undoMany mf_undos m_seenMany mf_seenOf mf_seenAt mf_seenOn mf_seenThere)) := by
  obtain ⟨tx, n, T, h, m, E, u, U, kc, G, i1, i2, i3, i4, i5, i6, i7⟩ := hI
  have fin : PInv _ _ _ _ _ _ _ _ _ _ _ _ _ _ _ _ _ _ _ _ _ _ _ _ _ _ _ _ _ _ _ _ _ _ _ _ _ _ _ _ _ _ _ _ _ _ _ _ _ _ _ _ _ _ _ _ _ _ _ _ _ := ⟨tx, n, T, h, m, E, u, U, kc, G, i1, i2, i3, i4, i5, i6, i7⟩
  obtain ⟨rfl, a2, rfl, a4, a5, a6⟩ := i1
  obtain ⟨v, hv, rfl⟩ := wb_of x2
  have e1 : (1 : Int64).toInt = 1 := by decide
  have e8 : (8 : Int64).toInt = 8 := by decide
  have f1 : (1 : Int32).toInt = 1 := by decide
  have f8 : (8 : Int32).toInt = 8 := by decide
  unfold pX8_write pX9_write
  refine ⟨fun c => ?_, fun c => ⟨fun c2 => ?_, fun c2 => ?_⟩⟩
  · rw [Int32.lt_iff_toInt_lt, f1] at c
    exact s_in (fun q1 _ => absurd q1 (by rw [t64, e1]; omega)) (fun _ => ⟨fun q => absurd rfl q, fun _ => ⟨rfl, fin⟩⟩)
  · rw [Int32.lt_iff_toInt_lt, f1] at c
    rw [Int32.le_iff_toInt_le, f8] at c2
    obtain ⟨d, hd1, hd2, rfl⟩ : ∃ d, 1 ≤ d ∧ d ≤ 8 ∧ x1 = nI d := ⟨x1.toInt.toNat, by omega, by omega, by apply Int32.toInt_inj.mp; rw [nI_toInt (by omega)]; omega⟩
    have hin : ∀ K : Int32 → Prop, K 1 → pX9_in (nI d).toInt64 (1 : Int64) (8 : Int64) K := fun K hK => s_in (fun _ _ => hK) (fun q => absurd (by rw [t64, e1, e8, nI_toInt (by omega)]; omega) q)
    rw [nI_add, show (300 : Int32) = nI 300 from rfl, nI_leI (by omega) (by omega)]
    refine br_c (fun c3 => ?_) (fun c3 => ?_)
    · refine s_append hv hd1 hd2 c3 a2 (fun g hg => ?_)
      refine hin _ ⟨fun _ => ?_, fun q => absurd q (by decide)⟩
      refine ⟨fun _ => s_writeM hv hd1 hd2 c3 a4 (fun g2 hg2 => ⟨rfl, txw tx n d v, n + d, T, h, m, E, u, U, kc, G, ⟨rfl, hg, rfl, hg2, c3, txw_lt a6⟩, i2, i3, i4, i5, i6, i7⟩), fun q => absurd c3 q⟩
    · refine hin _ ⟨fun _ => ?_, fun q => absurd q (by decide)⟩
      exact ⟨fun q => absurd q c3, fun _ => ⟨rfl, fin⟩⟩
  · rw [Int32.le_iff_toInt_le, f8] at c2
    exact s_in (fun _ q2 => absurd q2 (by rw [t64, e8]; omega)) (fun _ => ⟨fun q => absurd rfl q, fun _ => ⟨rfl, fin⟩⟩)
set_option maxHeartbeats 4000000 in
set_option maxRecDepth 100000 in
theorem law_seen {c_text_length : Int32} {cf_text_bytes : Nat → Int32} {c_town_places : Int32} {c_town_skins : Int32} {c_town_smoke : Int32} {c_town_tide : Int32} {cf_town_house : Nat → Int32} {cf_town_view : Nat → Int32} {cf_town_girth : Nat → Int32} {cf_town_kind : Nat → Int32} {c_town_hiding_looks : Int32} {cf_town_hiding_start : Nat → Int32} {cf_town_hiding_looker : Nat → Int32} {cf_town_hiding_lookPlace : Nat → Int32} {cf_town_hiding_lookDay : Nat → Int32} {cf_course_finder : Nat → Int32} {cf_course_prize : Nat → Int32} {cf_course_prizeDay : Nat → Int32} {cB_course_path : Nat → Nat → Int32} {c_sightings_held : Int32} {cf_sightings_skinSeen : Nat → Int32} {cf_sightings_placeSeen : Nat → Int32} {cf_sightings_daySeen : Nat → Int32} {cf_sightings_wasThere : Nat → Int32} {c_changes_held : Int32} {cf_changes_skinHidden : Nat → Int32} {cf_changes_former : Nat → Int32} {c_shelf_held : Int32} {c_shelf_rows_e0_looks : Int32} {cf_shelf_rows_e0_start : Nat → Int32} {cf_shelf_rows_e0_looker : Nat → Int32} {cf_shelf_rows_e0_lookPlace : Nat → Int32} {cf_shelf_rows_e0_lookDay : Nat → Int32} {c_shelf_rows_e1_looks : Int32} {cf_shelf_rows_e1_start : Nat → Int32} {cf_shelf_rows_e1_looker : Nat → Int32} {cf_shelf_rows_e1_lookPlace : Nat → Int32} {cf_shelf_rows_e1_lookDay : Nat → Int32} {m_length : Int32} {mf_text : Nat → Int32} {mf_places : Nat → Int32} {mf_houses : Nat → Int32} {mf_sights : Nat → Int32} {mf_many : Nat → Int32} {mf_sizes : Nat → Int32} {mf_kinds : Nat → Int32} {mf_smoke : Nat → Int32} {mf_tide : Nat → Int32} {mf_firsts : Nat → Int32} {mf_looks : Nat → Int32} {mf_lookOf : Nat → Int32} {mf_lookAt : Nat → Int32} {mf_lookOn : Nat → Int32} {m_keptMany : Int32} {m_undoMany : Int32} {mf_undos : Nat → Int32} {m_seenMany : Int32} {mf_seenOf : Nat → Int32} {mf_seenAt : Nat → Int32} {mf_seenOn : Nat → Int32} {mf_seenThere : Nat → Int32} (hI : PInv c_text_length cf_text_bytes c_town_places c_town_skins c_town_smoke c_town_tide cf_town_house cf_town_view cf_town_girth cf_town_kind c_town_hiding_looks cf_town_hiding_start cf_town_hiding_looker cf_town_hiding_lookPlace cf_town_hiding_lookDay cf_course_finder cf_course_prize cf_course_prizeDay cB_course_path c_sightings_held cf_sightings_skinSeen cf_sightings_placeSeen cf_sightings_daySeen cf_sightings_wasThere c_changes_held cf_changes_skinHidden cf_changes_former c_shelf_held c_shelf_rows_e0_looks cf_shelf_rows_e0_start cf_shelf_rows_e0_looker cf_shelf_rows_e0_lookPlace cf_shelf_rows_e0_lookDay c_shelf_rows_e1_looks cf_shelf_rows_e1_start cf_shelf_rows_e1_looker cf_shelf_rows_e1_lookPlace cf_shelf_rows_e1_lookDay m_length mf_text mf_places mf_houses mf_sights mf_many mf_sizes mf_kinds mf_smoke mf_tide mf_firsts mf_looks mf_lookOf mf_lookAt mf_lookOn m_keptMany m_undoMany mf_undos m_seenMany mf_seenOf mf_seenAt mf_seenOn mf_seenThere) (x1 : Int32) (x2 : Int32) (x3 : Int32) (x4 : Int32) (hb4 : x4 = 0 ∨ x4 = 1) : pX8_seen c_town_places c_town_skins c_sightings_held cf_sightings_skinSeen cf_sightings_placeSeen cf_sightings_daySeen cf_sightings_wasThere x1 x2 x3 x4 (fun (r : Int32) (o1 : Int32) (o2 : Nat → Int32) (o3 : Nat → Int32) (o4 : Nat → Int32) (o5 : Nat → Int32) => pX9_seen m_seenMany mf_many mf_places mf_seenOf mf_seenAt mf_seenOn mf_seenThere x1 x2 x3 x4 (fun (r2 : Int32) (p1 : Int32) (p2 : Nat → Int32) (p3 : Nat → Int32) (p4 : Nat → Int32) (p5 : Nat → Int32) => r = r2 ∧ PInv c_text_length cf_text_bytes c_town_places c_town_skins c_town_smoke c_town_tide cf_town_house cf_town_view cf_town_girth cf_town_kind c_town_hiding_looks cf_town_hiding_start cf_town_hiding_looker cf_town_hiding_lookPlace cf_town_hiding_lookDay cf_course_finder cf_course_prize cf_course_prizeDay cB_course_path o1 o2 o3 o4 o5 c_changes_held cf_changes_skinHidden cf_changes_former c_shelf_held c_shelf_rows_e0_looks cf_shelf_rows_e0_start cf_shelf_rows_e0_looker cf_shelf_rows_e0_lookPlace cf_shelf_rows_e0_lookDay c_shelf_rows_e1_looks cf_shelf_rows_e1_start cf_shelf_rows_e1_looker cf_shelf_rows_e1_lookPlace cf_shelf_rows_e1_lookDay m_length mf_text mf_places mf_houses mf_sights mf_many mf_sizes mf_kinds mf_smoke mf_tide mf_firsts mf_looks mf_lookOf mf_lookAt mf_lookOn m_keptMany m_undoMany mf_undos p1 p2 p3 p4 p5)) := by
  obtain ⟨tx, n, T, h, m, E, u, U, kc, G, i1, i2, i3, i4, i5, i6, i7⟩ := hI
  have fin : PInv _ _ _ _ _ _ _ _ _ _ _ _ _ _ _ _ _ _ _ _ _ _ _ _ _ _ _ _ _ _ _ _ _ _ _ _ _ _ _ _ _ _ _ _ _ _ _ _ _ _ _ _ _ _ _ _ _ _ _ _ _ := ⟨tx, n, T, h, m, E, u, U, kc, G, i1, i2, i3, i4, i5, i6, i7⟩
  obtain ⟨hT, hp0, hs0, j3⟩ := id i2
  have hm := j3.2.2.2.2.1
  obtain ⟨t1, t2, t3, t4, t5, t6, t7, t8, t9⟩ := id hT
  obtain ⟨m1, m2, m3, m4, m5⟩ := id hm
  obtain ⟨hE, rfl, hs, rfl, hs2⟩ := i5
  have hm8 := hE.1
  subst hp0 hs0
  unfold pX8_seen pX9_seen
  refine s_hasSkin (by omega) (fun hx => ⟨fun q => absurd q (by decide), fun _ => ?_⟩) (fun hx => ⟨fun _ => ?_, fun q => absurd rfl q⟩)
  · obtain ⟨a, ha, rfl⟩ := hx
    refine s_hasPlace (by omega) (fun hp => ⟨fun q => absurd q (by decide), fun _ => ?_⟩) (fun hp => ⟨fun _ => ?_, fun q => absurd rfl q⟩)
    · obtain ⟨p, hp, rfl⟩ := hp
      refine s_isDay (fun hd => ⟨fun _ => ?_, fun q => absurd q (by decide)⟩) (fun hd => ⟨fun q => absurd rfl q, fun _ => ?_⟩)
      · obtain ⟨d, d1, d2, rfl⟩ := hd
        have ex : ∃ z, z ≤ 1 ∧ x4 = nI z ∧ vp_nar .boolean x4 = nI z := by
          rcases hb4 with rfl | rfl
          · exact ⟨0, by omega, rfl, rfl⟩
          · exact ⟨1, by omega, rfl, rfl⟩
        obtain ⟨z, hz, rfl, ez⟩ := ex
        unfold pX6_add
        have e8 : (nI m < (8 : Int32)) = (m < 8) := by rw [show (8 : Int32) = nI 8 from rfl, nI_ltI (by omega) (by omega)]
        have e8e : (nI m = (8 : Int32)) = (m = 8) := by rw [show (8 : Int32) = nI 8 from rfl, nI_eq (by omega) (by omega)]
        have v8 : m < 8 → vp_in (nI m) 8 := fun q => vp_in_nI q (by omega)
        rw [e8, e8e, nI_clamp (by omega), ez, nI_1]
        refine ⟨fun c => ⟨v8 c, v8 c, v8 c, v8 c, fun q => absurd q (by decide), fun _ => ?_⟩, fun c => ⟨fun _ => ?_, fun q => absurd rfl q⟩⟩
        all_goals
          refine s_isSkin (by omega) m3 (fun _ => ⟨fun q => absurd q (by decide), fun _ => ?_⟩) (fun q => absurd ⟨a, ha, rfl⟩ q)
          refine s_isPlace (by omega) m1 (fun _ => ⟨fun q => absurd q (by decide), fun _ => ?_⟩) (fun q => absurd ⟨p, hp, rfl⟩ q)
          refine s_mIsDay (fun _ => ⟨fun _ => ?_, fun q => absurd q (by decide)⟩) (fun q => absurd ⟨d, d1, d2, rfl⟩ q)
        · refine ⟨fun _ => ⟨v8 c, v8 c, v8 c, ?_⟩, fun q => by omega⟩
          have fin2 := fun (se : Nat → Int32) (hq : csn (m + 1) (eput E m a p d z) (upd mf_seenOf m (nI a)) (upd mf_seenAt m (nI p)) (upd mf_seenOn m (nI d)) se) => (⟨tx, n, T, h, m + 1, eput E m a p d z, u, U, kc, G, i1, i2, i3, i4, ⟨eok_put hE c ha hp d1 d2 hz, rfl, csn_put hs, rfl, hq⟩, i6, i7⟩ : PInv _ _ _ _ _ _ _ _ _ _ _ _ _ _ _ _ _ _ _ _ _ _ _ _ _ _ _ _ _ _ _ _ _ _ _ _ _ _ _ _ _ _ _ _ _ _ _ _ _ _ _ _ _ _ _ _ _ _ _ _ _)
          refine ⟨fun c0 => ⟨v8 c, rfl, fin2 _ ?_⟩, fun c0 => ⟨v8 c, rfl, fin2 _ ?_⟩⟩
          · have e : z = 0 := by
              rw [show (0 : Int32) = nI 0 from rfl, nI_eq (by omega) (by omega)] at c0; exact c0
            subst e; exact csn_put hs2
          · have e : z = 1 := by
              rw [show (0 : Int32) = nI 0 from rfl, nI_eq (by omega) (by omega)] at c0; omega
            subst e; exact csn_put hs2
        · exact ⟨fun q => absurd (by omega) q, fun _ => ⟨rfl, fin⟩⟩
      · refine s_isSkin (by omega) m3 (fun _ => ⟨fun q => absurd q (by decide), fun _ => ?_⟩) (fun q => absurd ⟨a, ha, rfl⟩ q)
        refine s_isPlace (by omega) m1 (fun _ => ⟨fun q => absurd q (by decide), fun _ => ?_⟩) (fun q => absurd ⟨p, hp, rfl⟩ q)
        exact s_mIsDay (fun q => absurd q hd) (fun _ => ⟨fun q => absurd rfl q, fun _ => ⟨rfl, fin⟩⟩)
    · refine s_isSkin (by omega) m3 (fun _ => ⟨fun q => absurd q (by decide), fun _ => ?_⟩) (fun q => absurd ⟨a, ha, rfl⟩ q)
      exact s_isPlace (by omega) m1 (fun q => absurd q hp) (fun _ => ⟨fun _ => ⟨rfl, fin⟩, fun q => absurd rfl q⟩)
  · exact s_isSkin (by omega) m3 (fun q => absurd q hx) (fun _ => ⟨fun _ => ⟨rfl, fin⟩, fun q => absurd rfl q⟩)
