def uS (q : Nat) : Int32 := if q = 0 then (-1) else nI (q - 1)
def uM (q : Nat) : Int32 := if q = 0 then nm4 else nI (q - 1)
def cntL (u : Nat) (U : Nat → Nat → Nat) : Nat := fo (fun k n => if U 0 k = 0 then n + 1 else n) u 0
def uok (T h : Nat → Nat → Nat) (u : Nat) (U : Nat → Nat → Nat) : Prop := u ≤ 8 ∧ (∀ k, k < u → (U 0 k = 0 ∧ U 1 k = 0) ∨ (1 ≤ U 0 k ∧ U 0 k - 1 < T 1 0 ∧ U 1 k < T 0 0)) ∧ cntL u U ≤ h 0 0
def I1 (tx : Nat → Nat) (n : Nat) (cl : Int32) (cb : Nat → Int32) (ml : Int32) (mt : Nat → Int32) : Prop := cl = nI n ∧ cby tx n cb ∧ ml = nI n ∧ mby tx n mt ∧ n ≤ 300 ∧ ∀ k, tx k < 256
def I2 (T : Nat → Nat → Nat) (pl sk sm ti : Int32) (ho vi gi ki fp fh fs fm fz fk fw ft : Nat → Int32) : Prop := tok T ∧ pl = nI (T 0 0) ∧ sk = nI (T 1 0) ∧ sm = nI (T 2 0) ∧ ti = nI (T 3 0) ∧ ctw T ho gi ki ∧ (∀ k, k < T 0 0 → vi k = nI (T 5 k)) ∧ mtw T fp fh fm fz fk fw ∧ (∀ k, k < T 0 0 → fs k = nI (T 5 k)) ∧ ft 0 = nI (T 3 0)
def I3 (T h : Nat → Nat → Nat) (lk : Int32) (st lo lp ld ff fl ml ma mo : Nat → Int32) : Prop := hok T h ∧ lk = nI (h 0 0) ∧ (∀ i, i < T 1 0 → st i = nI (h 1 i)) ∧ chd h lo lp ld ∧ mhd T h ff fl ml ma mo
def I4 (T h : Nat → Nat → Nat) (F H W : Nat → Int32) (B : Nat → Nat → Int32) : Prop := eq5 (crs T h) F H W ∧ cpt T h B
def I5 (T : Nat → Nat → Nat) (m : Nat) (E : Nat → Nat → Nat) (ch : Int32) (sk pl dy th : Nat → Int32) (mh : Int32) (so sa sd se : Nat → Int32) : Prop := eok T m E ∧ ch = nI m ∧ csn m E sk pl dy th ∧ mh = nI m ∧ csn m E so sa sd se
def I6 (T h : Nat → Nat → Nat) (u : Nat) (U : Nat → Nat → Nat) (ch : Int32) (sh fo : Nat → Int32) (mu : Int32) (un : Nat → Int32) : Prop := uok T h u U ∧ ch = nI u ∧ (∀ k, k < u → sh k = uS (U 0 k) ∧ fo k = nI (U 1 k)) ∧ mu = nI u ∧ ∀ k, k < u → un (2 * k) = uM (U 0 k) ∧ un (2 * k + 1) = nI (U 1 k)
def chS (T g : Nat → Nat → Nat) (lk : Int32) (st lo lp ld : Nat → Int32) : Prop := lk = nI (g 0 0) ∧ (∀ i, i < T 1 0 → st i = nI (g 1 i)) ∧ chd g lo lp ld
def mkp (T g : Nat → Nat → Nat) (q : Nat) (fi lk lo la ln : Nat → Int32) : Prop := lk (2 + q) = nI (g 0 0) ∧ (∀ i, i < T 1 0 → fi (5 * (2 + q) + i) = nI (g 1 i)) ∧ ∀ k, k < g 0 0 → lo (9 * (2 + q) + k) = nI (g 2 k) ∧ la (9 * (2 + q) + k) = nI (g 3 k) ∧ ln (9 * (2 + q) + k) = nI (g 4 k)
def I7 (T : Nat → Nat → Nat) (kc : Nat) (G : Nat → Nat → Nat → Nat) (ch lk0 : Int32) (st0 lo0 lp0 ld0 : Nat → Int32) (lk1 : Int32) (st1 lo1 lp1 ld1 : Nat → Int32) (mk : Int32) (fi lk lo la ln : Nat → Int32) : Prop := kc ≤ 2 ∧ ch = nI kc ∧ (∀ q, q < kc → hok T (G q)) ∧ (0 < kc → chS T (G 0) lk0 st0 lo0 lp0 ld0) ∧ (1 < kc → chS T (G 1) lk1 st1 lo1 lp1 ld1) ∧ mk = nI kc ∧ ∀ q, q < kc → mkp T (G q) q fi lk lo la ln
def PInv (c_text_length : Int32) (cf_text_bytes : Nat → Int32) (c_town_places : Int32) (c_town_skins : Int32) (c_town_smoke : Int32) (c_town_tide : Int32) (cf_town_house : Nat → Int32) (cf_town_view : Nat → Int32) (cf_town_girth : Nat → Int32) (cf_town_kind : Nat → Int32) (c_town_hiding_looks : Int32) (cf_town_hiding_start : Nat → Int32) (cf_town_hiding_looker : Nat → Int32) (cf_town_hiding_lookPlace : Nat → Int32) (cf_town_hiding_lookDay : Nat → Int32) (cf_course_finder : Nat → Int32) (cf_course_prize : Nat → Int32) (cf_course_prizeDay : Nat → Int32) (cB_course_path : Nat → Nat → Int32) (c_sightings_held : Int32) (cf_sightings_skinSeen : Nat → Int32) (cf_sightings_placeSeen : Nat → Int32) (cf_sightings_daySeen : Nat → Int32) (cf_sightings_wasThere : Nat → Int32) (c_changes_held : Int32) (cf_changes_skinHidden : Nat → Int32) (cf_changes_former : Nat → Int32) (c_shelf_held : Int32) (c_shelf_rows_e0_looks : Int32) (cf_shelf_rows_e0_start : Nat → Int32) (cf_shelf_rows_e0_looker : Nat → Int32) (cf_shelf_rows_e0_lookPlace : Nat → Int32) (cf_shelf_rows_e0_lookDay : Nat → Int32) (c_shelf_rows_e1_looks : Int32) (cf_shelf_rows_e1_start : Nat → Int32) (cf_shelf_rows_e1_looker : Nat → Int32) (cf_shelf_rows_e1_lookPlace : Nat → Int32) (cf_shelf_rows_e1_lookDay : Nat → Int32) (m_length : Int32) (mf_text : Nat → Int32) (mf_places : Nat → Int32) (mf_houses : Nat → Int32) (mf_sights : Nat → Int32) (mf_many : Nat → Int32) (mf_sizes : Nat → Int32) (mf_kinds : Nat → Int32) (mf_smoke : Nat → Int32) (mf_tide : Nat → Int32) (mf_firsts : Nat → Int32) (mf_looks : Nat → Int32) (mf_lookOf : Nat → Int32) (mf_lookAt : Nat → Int32) (mf_lookOn : Nat → Int32) (m_keptMany : Int32) (m_undoMany : Int32) (mf_undos : Nat → Int32) (m_seenMany : Int32) (mf_seenOf : Nat → Int32) (mf_seenAt : Nat → Int32) (mf_seenOn : Nat → Int32) (mf_seenThere : Nat → Int32) : Prop :=
  ∃ (tx : Nat → Nat) (n : Nat) (T h : Nat → Nat → Nat) (m : Nat) (E : Nat → Nat → Nat) (u : Nat) (U : Nat → Nat → Nat) (kc : Nat) (G : Nat → Nat → Nat → Nat),
    I1 tx n c_text_length cf_text_bytes m_length mf_text ∧
    I2 T c_town_places c_town_skins c_town_smoke c_town_tide cf_town_house cf_town_view cf_town_girth cf_town_kind mf_places mf_houses mf_sights mf_many mf_sizes mf_kinds mf_smoke mf_tide ∧
    I3 T h c_town_hiding_looks cf_town_hiding_start cf_town_hiding_looker cf_town_hiding_lookPlace cf_town_hiding_lookDay mf_firsts mf_looks mf_lookOf mf_lookAt mf_lookOn ∧
    I4 T h cf_course_finder cf_course_prize cf_course_prizeDay cB_course_path ∧
    I5 T m E c_sightings_held cf_sightings_skinSeen cf_sightings_placeSeen cf_sightings_daySeen cf_sightings_wasThere m_seenMany mf_seenOf mf_seenAt mf_seenOn mf_seenThere ∧
    I6 T h u U c_changes_held cf_changes_skinHidden cf_changes_former m_undoMany mf_undos ∧
    I7 T kc G c_shelf_held c_shelf_rows_e0_looks cf_shelf_rows_e0_start cf_shelf_rows_e0_looker cf_shelf_rows_e0_lookPlace cf_shelf_rows_e0_lookDay c_shelf_rows_e1_looks cf_shelf_rows_e1_start cf_shelf_rows_e1_looker cf_shelf_rows_e1_lookPlace cf_shelf_rows_e1_lookDay m_keptMany mf_firsts mf_looks mf_lookOf mf_lookAt mf_lookOn
theorem s_in0 {x : Int32} {k : Nat} {hi : Int64} {K : Int32 → Prop} (e : hi.toInt = k) (hk : k < 100000) (h1 : (∃ j, j ≤ k ∧ x = nI j) → K 1) (h0 : (¬ ∃ j, j ≤ k ∧ x = nI j) → K 0) : pX9_in x.toInt64 (0 : Int64) hi K := by
  have e0 : (0 : Int64).toInt = 0 := by decide
  refine s_in (fun c1 c2 => h1 ?_) (fun c => h0 ?_)
  · rw [t64, e0] at c1
    rw [t64, e] at c2
    refine ⟨x.toInt.toNat, by omega, ?_⟩
    apply Int32.toInt_inj.mp
    rw [nI_toInt (by omega)]
    omega
  · rintro ⟨j, hj, rfl⟩
    rw [t64, e0, e, nI_toInt (by omega)] at c
    omega
theorem s_isZeroOrOne {x : Int32} {K : Int32 → Prop} (h1 : (∃ j, j ≤ 1 ∧ x = nI j) → K 1) (h0 : (¬ ∃ j, j ≤ 1 ∧ x = nI j) → K 0) : pX8_isZeroOrOne x K := by
  unfold pX8_isZeroOrOne
  refine ⟨fun c => ?_, fun c => ?_⟩
  all_goals first
    | (refine ⟨fun c2 => ?_, fun c2 => ?_⟩)
    | skip
  all_goals first
    | (refine h1 ⟨0, by omega, ?_⟩; assumption)
    | (refine h1 ⟨1, by omega, ?_⟩; assumption)
    | (refine h0 ?_; rintro ⟨j, hj, rfl⟩; rcases (show j = 0 ∨ j = 1 by omega) with rfl | rfl <;> first | exact absurd rfl c | exact absurd rfl c2 | exact c rfl | exact c2 rfl)
theorem z2 {x : Int32} {j : Nat} (hj : j ≤ 1) (e : x = nI j) : (x = 0 ∧ j = 0) ∨ (x = 1 ∧ j = 1) := by
  rcases (show j = 0 ∨ j = 1 by omega) with rfl | rfl
  · exact Or.inl ⟨e, rfl⟩
  · exact Or.inr ⟨e, rfl⟩
