/-! ===== what hiding, looking, undoing, keeping change ===== -/
theorem I7_kp {T : Nat → Nat → Nat} {kc : Nat} {G : Nat → Nat → Nat → Nat} {ch lk0 lk1 mk : Int32} {st0 lo0 lp0 ld0 st1 lo1 lp1 ld1 fi lk lo la ln fi2 lk2 lo2 la2 ln2 : Nat → Int32} (h : I7 T kc G ch lk0 st0 lo0 lp0 ld0 lk1 st1 lo1 lp1 ld1 mk fi lk lo la ln) (h1 : ∀ j, 10 ≤ j → fi2 j = fi j) (h2 : ∀ j, 2 ≤ j → lk2 j = lk j) (h3 : ∀ j, 18 ≤ j → lo2 j = lo j) (h4 : ∀ j, 18 ≤ j → la2 j = la j) (h5 : ∀ j, 18 ≤ j → ln2 j = ln j) : I7 T kc G ch lk0 st0 lo0 lp0 ld0 lk1 st1 lo1 lp1 ld1 mk fi2 lk2 lo2 la2 ln2 := by
  obtain ⟨a1, a2, a3, a4, a5, a6, a7⟩ := h
  refine ⟨a1, a2, a3, a4, a5, a6, fun q hq => ?_⟩
  obtain ⟨b1, b2, b3⟩ := a7 q hq
  exact ⟨by rw [h2 _ (by omega)]; exact b1, fun i hi => by rw [h1 _ (by omega)]; exact b2 i hi, fun k hk => by rw [h3 _ (by omega), h4 _ (by omega), h5 _ (by omega)]; exact b3 k hk⟩
theorem s_follow {T h : Nat → Nat → Nat} {lk : Int32} {F H W st ki ho ld lo lp gi : Nat → Int32} {B : Nat → Nat → Int32} {K : (Nat → Int32) → (Nat → Int32) → (Nat → Int32) → (Nat → Nat → Int32) → Prop} (hT : tok T) (hlk : lk = nI (h 0 0)) (hh : hok T h) (hw : ctw T ho gi ki) (hst : ∀ i, i < T 1 0 → st i = nI (h 1 i)) (hl : chd h lo lp ld)
    (k : ∀ F H W B, eq5 (crs T h) F H W → cpt T h B → K F H W B) : pX8_followCourse (nI (T 0 0)) (nI (T 1 0)) (nI (T 2 0)) lk F H W st ki B ho ld lo lp gi K := by
  subst hlk; unfold pX8_followCourse; exact s_run hT hh hw hst hl k
def ulen (u : Nat) : Nat := if u < 8 then u + 1 else 8
def uput (u : Nat) (U : Nat → Nat → Nat) (a b : Nat) : Nat → Nat → Nat := fun f k => if u < 8 then (if k = u then (if f = 0 then a else b) else U f k) else (if k = 7 then (if f = 0 then a else b) else U f (k + 1))
theorem up_lt {u a b : Nat} {U : Nat → Nat → Nat} (h : u < 8) {f k : Nat} (hk : k ≠ u) : uput u U a b f k = U f k := by unfold uput; rw [if_pos h, if_neg hk]
theorem up_at {u a b : Nat} {U : Nat → Nat → Nat} (h : u < 8) : uput u U a b 0 u = a ∧ uput u U a b 1 u = b := by unfold uput; rw [if_pos h, if_pos rfl, if_pos rfl, if_pos h, if_pos rfl, if_neg (by decide)]; exact ⟨rfl, rfl⟩
theorem up_ge {u a b : Nat} {U : Nat → Nat → Nat} (h : ¬ u < 8) {f k : Nat} (hk : k ≠ 7) : uput u U a b f k = U f (k + 1) := by unfold uput; rw [if_neg h, if_neg hk]
theorem up_7 {u a b : Nat} {U : Nat → Nat → Nat} (h : ¬ u < 8) : uput u U a b 0 7 = a ∧ uput u U a b 1 7 = b := by unfold uput; rw [if_neg h, if_pos rfl, if_pos rfl, if_neg h, if_pos rfl, if_neg (by decide)]; exact ⟨rfl, rfl⟩
theorem cnt_s (n : Nat) (U : Nat → Nat → Nat) : cntL (n + 1) U = cntL n U + (if U 0 n = 0 then 1 else 0) := by
  show (if U 0 n = 0 then cntL n U + 1 else cntL n U) = _
  split <;> rfl
theorem cnt_cg {U V : Nat → Nat → Nat} : ∀ n, (∀ k, k < n → U 0 k = V 0 k) → cntL n U = cntL n V
  | 0, _ => rfl
  | n + 1, h => by rw [cnt_s, cnt_s, cnt_cg n (fun k hk => h k (by omega)), h n (by omega)]
theorem cnt_sh {U : Nat → Nat → Nat} : ∀ n, cntL (n + 1) U = (if U 0 0 = 0 then 1 else 0) + cntL n (fun f k => U f (k + 1))
  | 0 => by rw [cnt_s]; exact Nat.add_comm _ _
  | n + 1 => by rw [cnt_s, cnt_sh n, cnt_s n, Nat.add_assoc]
theorem cnt_put {u a b : Nat} {U : Nat → Nat → Nat} (hu : u ≤ 8) : cntL (ulen u) (uput u U a b) ≤ cntL u U + (if a = 0 then 1 else 0) := by
  unfold ulen
  by_cases c : u < 8
  · rw [if_pos c, cnt_s, (up_at c).1, cnt_cg (V := U) u (fun k hk => up_lt c (by omega))]
    exact Nat.le_refl _
  · have e : u = 8 := by omega
    subst e
    rw [if_neg c, cnt_s 7, (up_7 c).1, cnt_cg (V := fun f k => U f (k + 1)) 7 (fun k hk => up_ge c (by omega)), cnt_sh 7]
    omega
theorem ul_le {u : Nat} (h : u ≤ 8) : ulen u ≤ 8 := by unfold ulen; split <;> omega
theorem uok_put {T h h2 : Nat → Nat → Nat} {u a b : Nat} {U : Nat → Nat → Nat} (hU : uok T h u U) (hab : (a = 0 ∧ b = 0) ∨ (1 ≤ a ∧ a - 1 < T 1 0 ∧ b < T 0 0)) (hh : h 0 0 + (if a = 0 then 1 else 0) ≤ h2 0 0) : uok T h2 (ulen u) (uput u U a b) := by
  obtain ⟨u1, u2, u3⟩ := hU
  refine ⟨ul_le u1, fun k hk => ?_, Nat.le_trans (cnt_put u1) (by omega)⟩
  unfold ulen at hk
  by_cases c : u < 8
  · rw [if_pos c] at hk
    by_cases e : k = u
    · subst e; rw [(up_at c).1, (up_at c).2]; exact hab
    · rw [up_lt c e, up_lt c e]; exact u2 k (by omega)
  · rw [if_neg c] at hk
    by_cases e : k = 7
    · subst e; rw [(up_7 c).1, (up_7 c).2]; exact hab
    · rw [up_ge c e, up_ge c e]; exact u2 (k + 1) (by omega)
theorem s_note {u a b : Nat} {U : Nat → Nat → Nat} {x y : Int32} {sh fo : Nat → Int32} {K : Int32 → (Nat → Int32) → (Nat → Int32) → Prop} (hu : u ≤ 8) (hs : ∀ k, k < u → sh k = uS (U 0 k) ∧ fo k = nI (U 1 k)) (hx : x = uS a) (hy : y = nI b)
    (h : ∀ sh fo, (∀ k, k < ulen u → sh k = uS (uput u U a b 0 k) ∧ fo k = nI (uput u U a b 1 k)) → K (nI (ulen u)) sh fo) : pX0_note (nI u) sh fo x y K := by
  subst hx hy
  unfold pX0_note
  rw [show (8 : Int32) = nI 8 from rfl, nI_ltI (by omega) (by omega), nI_clamp (by omega), show (7 : Int32).toNatClampNeg = 7 from rfl, show (1 : Int32).toNatClampNeg = 1 from rfl, show (0 : Int32).toNatClampNeg = 0 from rfl, show (7 : Int32) + 1 = nI 8 from rfl, nI_1]
  refine ⟨fun c => ⟨vp_in_nI (by omega) (by omega), vp_in_nI (by omega) (by omega), ?_⟩, fun c => ?_⟩
  · have e : ulen u = u + 1 := if_pos c
    rw [e] at h
    refine h _ _ (fun k hk => ?_)
    by_cases e2 : k = u
    · subst e2; rw [pk_us, pk_us, (up_at c).1, (up_at c).2]; exact ⟨rfl, rfl⟩
    · rw [pk_un e2, pk_un e2, up_lt c e2, up_lt c e2]; exact hs k (by omega)
  · have e : ulen u = 8 := if_neg c
    rw [e] at h
    refine h _ _ (fun k hk => ?_)
    by_cases e2 : k = 7
    · subst e2; rw [pk_us, pk_us, (up_7 c).1, (up_7 c).2]; exact ⟨rfl, rfl⟩
    · rw [pk_un e2, pk_un e2, up_ge c e2, up_ge c e2, pk_cpy_in (by omega) (by omega), pk_cpy_in (by omega) (by omega), show 1 + (k - 0) = k + 1 by omega]; exact hs (k + 1) (by omega)
theorem s_mnote {u a b : Nat} {U : Nat → Nat → Nat} {x y : Int32} {un : Nat → Int32} {K : Int32 → (Nat → Int32) → Prop} (hu : u ≤ 8) (hs : ∀ k, k < u → un (2 * k) = uM (U 0 k) ∧ un (2 * k + 1) = nI (U 1 k)) (hx : x = uM a) (hy : y = nI b)
    (h : ∀ un, (∀ k, k < ulen u → un (2 * k) = uM (uput u U a b 0 k) ∧ un (2 * k + 1) = nI (uput u U a b 1 k)) → K (nI (ulen u)) un) : pX9_note (nI u) un x y K := by
  subst hx hy
  unfold pX9_note
  have e8 : (nI u = (8 : Int32)) = (u = 8) := by rw [show (8 : Int32) = nI 8 from rfl, nI_eq (by omega) (by omega)]
  rw [e8]
  refine ⟨fun c => ?_, fun c => ?_⟩
  · rw [show (2 : Int32) = nI 2 from rfl, pk_mul, nI_1, nI_1, nI_clamp (by omega), nI_clamp (by omega)]
    refine ⟨vp_in_nI (by omega) (by omega), vp_in_nI (by omega) (by omega), ?_⟩
    have c2 : u < 8 := by omega
    have e : ulen u = u + 1 := if_pos c2
    rw [e] at h
    refine h _ (fun k hk => ?_)
    by_cases e2 : k = u
    · subst e2; rw [pk_us, pk_un (by omega), pk_us, (up_at c2).1, (up_at c2).2]; exact ⟨rfl, rfl⟩
    · rw [pk_un (by omega), pk_un (by omega), pk_un (by omega), pk_un (by omega), up_lt c2 e2, up_lt c2 e2]; exact hs k (by omega)
  · subst c
    refine it2_rule (fun x g => ∃ p, p ≤ 14 ∧ x = nI p ∧ (∀ j, j < p → g j = un (j + 2)) ∧ ∀ j, p ≤ j → g j = un j) (fun x _ => 15 - x.toNatClampNeg) ?_ _ _ ⟨0, by omega, rfl, fun j hj => by omega, fun j _ => rfl⟩
    rintro rec x g ⟨p, hp, rfl, g1, g2⟩ hrec
    unfold pX9_note_B11
    rw [show (14 : Int32) = nI 14 from rfl, nI_leI (by omega) (by omega)]
    refine br_c (fun c => ?_) (fun c => ?_)
    · have e : p = 14 := by omega
      subst e
      rw [show (2 : Int32) * (nI 8 - 1) = nI 14 from rfl, show (nI 14 + 1 : Int32) = nI 15 from rfl, show (nI 8 - 1 + 1 : Int32) = nI 8 from rfl, nI_clamp (by omega), nI_clamp (by omega)]
      refine ⟨vp_in_nI (by omega) (by omega), vp_in_nI (by omega) (by omega), ?_⟩
      have c2 : ¬ 8 < 8 := by omega
      have e : ulen 8 = 8 := if_neg c2
      rw [e] at h
      refine h _ (fun k hk => ?_)
      by_cases e2 : k = 7
      · subst e2; rw [pk_us, pk_un (by omega), pk_us, (up_7 c2).1, (up_7 c2).2]; exact ⟨rfl, rfl⟩
      · rw [pk_un (by omega), pk_un (by omega), pk_un (by omega), pk_un (by omega), up_ge c2 e2, up_ge c2 e2, g1 _ (by omega), g1 _ (by omega)]; exact hs (k + 1) (by omega)
    · rw [show (2 : Int32) = nI 2 from rfl, nI_add, nI_1, nI_clamp (by omega), nI_clamp (by omega)]
      refine ⟨vp_in_nI (by omega) (by omega), vp_in_nI (by omega) (by omega), hrec _ _ ⟨p + 1, by omega, rfl, fun j hj => ?_, fun j hj => ?_⟩ (by rw [nI_clamp (by omega), nI_clamp (by omega)]; omega)⟩
      · by_cases e : j = p
        · subst e; rw [pk_us]; exact g2 _ (by omega)
        · rw [pk_un e]; exact g1 j (by omega)
      · rw [pk_un (by omega)]; exact g2 j (by omega)
theorem hd_st {T h : Nat → Nat → Nat} {a p : Nat} {st lo lp ld ff fl ml ma mo : Nat → Int32} (hh : hok T h) (hst : ∀ i, i < T 1 0 → st i = nI (h 1 i)) (hl : chd h lo lp ld) (hm : mhd T h ff fl ml ma mo) (hp : p < T 0 0) :
    up2 h 1 a p 0 0 = h 0 0 ∧ hok T (up2 h 1 a p) ∧ (∀ i, i < T 1 0 → upd st a (nI p) i = nI (up2 h 1 a p 1 i)) ∧ chd (up2 h 1 a p) lo lp ld ∧ mhd T (up2 h 1 a p) (upd ff a (nI p)) fl ml ma mo := by
  have e0 : up2 h 1 a p 0 0 = h 0 0 := up2_n (Or.inl (by decide))
  have ek : ∀ f k, f ≠ 1 → up2 h 1 a p f k = h f k := fun f k q => up2_n (Or.inl q)
  have ei : ∀ i, up2 h 1 a p 1 i = if i = a then p else h 1 i := fun i => by
    by_cases c : i = a
    · subst c; rw [up2_s, if_pos rfl]
    · rw [up2_n (Or.inr c), if_neg c]
  have es : ∀ (f : Nat → Int32), (∀ i, i < T 1 0 → f i = nI (h 1 i)) → ∀ i, i < T 1 0 → upd f a (nI p) i = nI (up2 h 1 a p 1 i) := fun f hf i hi => by
    rw [ei]
    by_cases c : i = a
    · subst c; rw [pk_us, if_pos rfl]
    · rw [pk_un c, if_neg c]; exact hf i hi
  refine ⟨e0, ⟨by rw [e0]; exact hh.1, fun i hi => ?_, fun k hk => ?_⟩, es st hst, fun k hk => ?_, ?_, es ff hm.2.1, fun k hk => ?_⟩
  · rw [ei]; split
    · exact hp
    · exact hh.2.1 i hi
  · rw [e0] at hk; rw [ek 2 k (by decide), ek 3 k (by decide), ek 4 k (by decide)]; exact hh.2.2 k hk
  · rw [e0] at hk; rw [ek 2 k (by decide), ek 3 k (by decide), ek 4 k (by decide)]; exact hl k hk
  · rw [e0]; exact hm.1
  · rw [e0] at hk; rw [ek 2 k (by decide), ek 3 k (by decide), ek 4 k (by decide)]; exact hm.2.2 k hk
def hput (h : Nat → Nat → Nat) (a p d : Nat) : Nat → Nat → Nat := fun f k => if f = 0 then h 0 0 + 1 else if f = 1 then h 1 k else if k = h 0 0 then (if f = 2 then a else if f = 3 then p else d) else h f k
theorem hd_add {T h : Nat → Nat → Nat} {a p d : Nat} {st lo lp ld ff fl ml ma mo : Nat → Int32} (hh : hok T h) (hst : ∀ i, i < T 1 0 → st i = nI (h 1 i)) (hl : chd h lo lp ld) (hm : mhd T h ff fl ml ma mo) (hn : h 0 0 < 9) (ha : a < T 1 0) (hp : p < T 0 0) (hd : 1 ≤ d) (hd2 : d ≤ 60) :
    hput h a p d 0 0 = h 0 0 + 1 ∧ hok T (hput h a p d) ∧ (∀ i, i < T 1 0 → st i = nI (hput h a p d 1 i)) ∧ chd (hput h a p d) (upd lo (h 0 0) (nI a)) (upd lp (h 0 0) (nI p)) (upd ld (h 0 0) (nI d)) ∧ mhd T (hput h a p d) ff (upd fl 0 (nI (h 0 0 + 1))) (upd ml (h 0 0) (nI a)) (upd ma (h 0 0) (nI p)) (upd mo (h 0 0) (nI d)) := by
  have e0 : hput h a p d 0 0 = h 0 0 + 1 := rfl
  have e1 : ∀ i, hput h a p d 1 i = h 1 i := fun i => rfl
  have es : hput h a p d 2 (h 0 0) = a ∧ hput h a p d 3 (h 0 0) = p ∧ hput h a p d 4 (h 0 0) = d := by simp [hput]
  have en : ∀ k, k ≠ h 0 0 → hput h a p d 2 k = h 2 k ∧ hput h a p d 3 k = h 3 k ∧ hput h a p d 4 k = h 4 k := fun k q => by simp [hput, q]
  have hc : ∀ lo lp ld : Nat → Int32, (∀ k, k < h 0 0 → lo k = nI (h 2 k) ∧ lp k = nI (h 3 k) ∧ ld k = nI (h 4 k)) → ∀ k, k < h 0 0 + 1 → upd lo (h 0 0) (nI a) k = nI (hput h a p d 2 k) ∧ upd lp (h 0 0) (nI p) k = nI (hput h a p d 3 k) ∧ upd ld (h 0 0) (nI d) k = nI (hput h a p d 4 k) := fun lo lp ld hq k hk => by
    by_cases c : k = h 0 0
    · subst c; rw [pk_us, pk_us, pk_us, es.1, es.2.1, es.2.2]; exact ⟨rfl, rfl, rfl⟩
    · rw [pk_un c, pk_un c, pk_un c, (en k c).1, (en k c).2.1, (en k c).2.2]; exact hq k (by omega)
  refine ⟨e0, ⟨by rw [e0]; omega, hh.2.1, fun k hk => ?_⟩, hst, hc lo lp ld hl, pk_us, hm.2.1, hc ml ma mo hm.2.2⟩
  rw [e0] at hk
  by_cases c : k = h 0 0
  · subst c; rw [es.1, es.2.1, es.2.2]; exact ⟨ha, hp, hd, hd2⟩
  · rw [(en k c).1, (en k c).2.1, (en k c).2.2]; exact hh.2.2 k (by omega)
def hles (h : Nat → Nat → Nat) : Nat → Nat → Nat := fun f k => if f = 0 then h 0 0 - 1 else h f k
theorem hd_les {T h : Nat → Nat → Nat} {st lo lp ld ff fl ml ma mo : Nat → Int32} (hh : hok T h) (hst : ∀ i, i < T 1 0 → st i = nI (h 1 i)) (hl : chd h lo lp ld) (hm : mhd T h ff fl ml ma mo) :
    hles h 0 0 = h 0 0 - 1 ∧ hok T (hles h) ∧ (∀ i, i < T 1 0 → st i = nI (hles h 1 i)) ∧ chd (hles h) lo lp ld ∧ mhd T (hles h) ff (upd fl 0 (nI (h 0 0 - 1))) ml ma mo := by
  have e0 : hles h 0 0 = h 0 0 - 1 := rfl
  have h9 := hh.1
  exact ⟨e0, ⟨by rw [e0]; omega, hh.2.1, fun k hk => hh.2.2 k (by rw [e0] at hk; omega)⟩, hst, fun k hk => hl k (by rw [e0] at hk; omega), pk_us, hm.2.1, fun k hk => hm.2.2 k (by rw [e0] at hk; omega)⟩
set_option maxHeartbeats 4000000 in
set_option maxRecDepth 100000 in
theorem law_hide {c_text_length : Int32} {cf_text_bytes : Nat → Int32} {c_town_places : Int32} {c_town_skins : Int32} {c_town_smoke : Int32} {c_town_tide : Int32} {cf_town_house : Nat → Int32} {cf_town_view : Nat → Int32} {cf_town_girth : Nat → Int32} {cf_town_kind : Nat → Int32} {c_town_hiding_looks : Int32} {cf_town_hiding_start : Nat → Int32} {cf_town_hiding_looker : Nat → Int32} {cf_town_hiding_lookPlace : Nat → Int32} {cf_town_hiding_lookDay : Nat → Int32} {cf_course_finder : Nat → Int32} {cf_course_prize : Nat → Int32} {cf_course_prizeDay : Nat → Int32} {cB_course_path : Nat → Nat → Int32} {c_sightings_held : Int32} {cf_sightings_skinSeen : Nat → Int32} {cf_sightings_placeSeen : Nat → Int32} {cf_sightings_daySeen : Nat → Int32} {cf_sightings_wasThere : Nat → Int32} {c_changes_held : Int32} {cf_changes_skinHidden : Nat → Int32} {cf_changes_former : Nat → Int32} {c_shelf_held : Int32} {c_shelf_rows_e0_looks : Int32} {cf_shelf_rows_e0_start : Nat → Int32} {cf_shelf_rows_e0_looker : Nat → Int32} {cf_shelf_rows_e0_lookPlace : Nat → Int32} {cf_shelf_rows_e0_lookDay : Nat → Int32} {c_shelf_rows_e1_looks : Int32} {cf_shelf_rows_e1_start : Nat → Int32} {cf_shelf_rows_e1_looker : Nat → Int32} {cf_shelf_rows_e1_lookPlace : Nat → Int32} {cf_shelf_rows_e1_lookDay : Nat → Int32} {m_length : Int32} {mf_text : Nat → Int32} {mf_places : Nat → Int32} {mf_houses : Nat → Int32} {mf_sights : Nat → Int32} {mf_many : Nat → Int32} {mf_sizes : Nat → Int32} {mf_kinds : Nat → Int32} {mf_smoke : Nat → Int32} {mf_tide : Nat → Int32} {mf_firsts : Nat → Int32} {mf_looks : Nat → Int32} {mf_lookOf : Nat → Int32} {mf_lookAt : Nat → Int32} {mf_lookOn : Nat → Int32} {m_keptMany : Int32} {m_undoMany : Int32} {mf_undos : Nat → Int32} {m_seenMany : Int32} {mf_seenOf : Nat → Int32} {mf_seenAt : Nat → Int32} {mf_seenOn : Nat → Int32} {mf_seenThere : Nat → Int32} (hI : PInv c_text_length cf_text_bytes c_town_places c_town_skins c_town_smoke c_town_tide cf_town_house cf_town_view cf_town_girth cf_town_kind c_town_hiding_looks cf_town_hiding_start cf_town_hiding_looker cf_town_hiding_lookPlace cf_town_hiding_lookDay cf_course_finder cf_course_prize cf_course_prizeDay cB_course_path c_sightings_held cf_sightings_skinSeen cf_sightings_placeSeen cf_sightings_daySeen cf_sightings_wasThere c_changes_held cf_changes_skinHidden cf_changes_former c_shelf_held c_shelf_rows_e0_looks cf_shelf_rows_e0_start cf_shelf_rows_e0_looker cf_shelf_rows_e0_lookPlace cf_shelf_rows_e0_lookDay c_shelf_rows_e1_looks cf_shelf_rows_e1_start cf_shelf_rows_e1_looker cf_shelf_rows_e1_lookPlace cf_shelf_rows_e1_lookDay m_length mf_text mf_places mf_houses mf_sights mf_many mf_sizes mf_kinds mf_smoke mf_tide mf_firsts mf_looks mf_lookOf mf_lookAt mf_lookOn m_keptMany m_undoMany mf_undos m_seenMany mf_seenOf mf_seenAt mf_seenOn mf_seenThere) (x1 : Int32) (x2 : Int32) : pX8_hide c_town_places c_town_skins c_town_smoke c_town_hiding_looks cf_town_hiding_start c_changes_held cf_changes_skinHidden cf_changes_former cf_course_finder cf_course_prize cf_course_prizeDay cf_town_kind cB_course_path cf_town_house cf_town_hiding_lookDay cf_town_hiding_looker cf_town_hiding_lookPlace cf_town_girth x1 x2 (fun (r : Int32) (o1 : Nat → Int32) (o2 : Int32) (o3 : Nat → Int32) (o4 : Nat → Int32) (o5 : Nat → Int32) (o6 : Nat → Int32) (o7 : Nat → Int32) (o8 : Nat → Nat → Int32) => pX9_hide m_undoMany mf_many mf_places mf_firsts mf_undos x1 x2 (fun (r2 : Int32) (p1 : Int32) (p2 : Nat → Int32) (p3 : Nat → Int32) => r = r2 ∧ PInv c_text_length cf_text_bytes c_town_places c_town_skins c_town_smoke c_town_tide cf_town_house cf_town_view cf_town_girth cf_town_kind c_town_hiding_looks o1 cf_town_hiding_looker cf_town_hiding_lookPlace cf_town_hiding_lookDay o5 o6 o7 o8 c_sightings_held cf_sightings_skinSeen cf_sightings_placeSeen cf_sightings_daySeen cf_sightings_wasThere o2 o3 o4 c_shelf_held c_shelf_rows_e0_looks cf_shelf_rows_e0_start cf_shelf_rows_e0_looker cf_shelf_rows_e0_lookPlace cf_shelf_rows_e0_lookDay c_shelf_rows_e1_looks cf_shelf_rows_e1_start cf_shelf_rows_e1_looker cf_shelf_rows_e1_lookPlace cf_shelf_rows_e1_lookDay m_length mf_text mf_places mf_houses mf_sights mf_many mf_sizes mf_kinds mf_smoke mf_tide p2 mf_looks mf_lookOf mf_lookAt mf_lookOn m_keptMany p1 p3 m_seenMany mf_seenOf mf_seenAt mf_seenOn mf_seenThere)) := by
  obtain ⟨tx, n, T, h, m, E, u, U, kc, G, i1, i2, i3, i4, i5, i6, i7⟩ := hI
  have fin : PInv _ _ _ _ _ _ _ _ _ _ _ _ _ _ _ _ _ _ _ _ _ _ _ _ _ _ _ _ _ _ _ _ _ _ _ _ _ _ _ _ _ _ _ _ _ _ _ _ _ _ _ _ _ _ _ _ _ _ _ _ _ := ⟨tx, n, T, h, m, E, u, U, kc, G, i1, i2, i3, i4, i5, i6, i7⟩
  have j2 := i2
  have j7 := i7
  obtain ⟨hT, rfl, rfl, rfl, rfl, hw, hv, hm, hfs, hft⟩ := i2
  obtain ⟨hh, rfl, hst, hl, hmh⟩ := i3
  obtain ⟨he, hB⟩ := i4
  obtain ⟨t1, t2, t3, t4, t5, t6, t7, t8, t9⟩ := id hT
  obtain ⟨m1, m2, m3, m4, m5⟩ := id hm
  obtain ⟨l1, l2, l3⟩ := id hmh
  have hcs := csok_crs hT hh
  have z0 : (0 : Int32).toNatClampNeg = 0 := rfl
  obtain ⟨hU, rfl, hsf, rfl, hun⟩ := i6
  have hu8 := hU.1
  unfold pX8_hide pX9_hide
  refine s_hasSkin (by omega) (fun hx => ⟨fun q => absurd q (by decide), fun _ => ?_⟩) (fun hx => ⟨fun _ => ?_, fun q => absurd rfl q⟩)
  · obtain ⟨a, ha, rfl⟩ := hx
    have v5 : vp_in (nI a) 5 := vp_in_nI (by omega) (by omega)
    have v20 : vp_in (nI a) 20 := vp_in_nI (by omega) (by omega)
    refine s_hasPlace (by omega) (fun hp => ⟨fun _ => ⟨v5, ?_⟩, fun q => absurd q (by decide)⟩) (fun hp => ⟨fun q => absurd rfl q, fun _ => ?_⟩)
    · obtain ⟨p, hp, rfl⟩ := hp
      rw [nI_clamp (by omega), hst a ha, l2 a ha]
      obtain ⟨k0, k1, k2, k3, k4⟩ := hd_st (a := a) hh hst hl hmh hp
      refine s_note (a := a + 1) (b := h 1 a) hu8 hsf rfl rfl (fun sh2 fo2 hsf2 => ⟨v5, ?_⟩)
      refine s_follow (h := up2 h 1 a p) hT (by rw [k0]) k1 hw k2 k3 (fun F H W B e5 cp => ?_)
      refine s_isSkin (by omega) m3 (fun _ => ⟨fun q => absurd q (by decide), fun _ => ?_⟩) (fun q => absurd ⟨a, ha, rfl⟩ q)
      refine s_isPlace (by omega) m1 (fun _ => ⟨fun _ => ?_, fun q => absurd q (by decide)⟩) (fun q => absurd ⟨p, hp, rfl⟩ q)
      refine ⟨v20, s_mnote (a := a + 1) (b := h 1 a) hu8 hun rfl rfl (fun un2 hun2 => ⟨v20, rfl, ?_⟩)⟩
      exact ⟨tx, n, T, up2 h 1 a p, m, E, ulen u, uput u U (a + 1) (h 1 a), kc, G, i1, j2, ⟨k1, by rw [k0], k2, k3, k4⟩, ⟨e5, cp⟩, i5, ⟨uok_put hU (Or.inr ⟨by omega, by omega, hh.2.1 a ha⟩) (by rw [k0, if_neg (by omega)]; omega), rfl, hsf2, rfl, hun2⟩, I7_kp j7 (fun j hj => pk_un (by omega)) (fun _ _ => rfl) (fun _ _ => rfl) (fun _ _ => rfl) (fun _ _ => rfl)⟩
    · refine s_isSkin (by omega) m3 (fun _ => ⟨fun q => absurd q (by decide), fun _ => ?_⟩) (fun q => absurd ⟨a, ha, rfl⟩ q)
      exact s_isPlace (by omega) m1 (fun q => absurd q hp) (fun _ => ⟨fun q => absurd rfl q, fun _ => ⟨rfl, fin⟩⟩)
  · exact s_isSkin (by omega) m3 (fun q => absurd q hx) (fun _ => ⟨fun _ => ⟨rfl, fin⟩, fun q => absurd rfl q⟩)
set_option maxHeartbeats 4000000 in
set_option maxRecDepth 100000 in
theorem law_look {c_text_length : Int32} {cf_text_bytes : Nat → Int32} {c_town_places : Int32} {c_town_skins : Int32} {c_town_smoke : Int32} {c_town_tide : Int32} {cf_town_house : Nat → Int32} {cf_town_view : Nat → Int32} {cf_town_girth : Nat → Int32} {cf_town_kind : Nat → Int32} {c_town_hiding_looks : Int32} {cf_town_hiding_start : Nat → Int32} {cf_town_hiding_looker : Nat → Int32} {cf_town_hiding_lookPlace : Nat → Int32} {cf_town_hiding_lookDay : Nat → Int32} {cf_course_finder : Nat → Int32} {cf_course_prize : Nat → Int32} {cf_course_prizeDay : Nat → Int32} {cB_course_path : Nat → Nat → Int32} {c_sightings_held : Int32} {cf_sightings_skinSeen : Nat → Int32} {cf_sightings_placeSeen : Nat → Int32} {cf_sightings_daySeen : Nat → Int32} {cf_sightings_wasThere : Nat → Int32} {c_changes_held : Int32} {cf_changes_skinHidden : Nat → Int32} {cf_changes_former : Nat → Int32} {c_shelf_held : Int32} {c_shelf_rows_e0_looks : Int32} {cf_shelf_rows_e0_start : Nat → Int32} {cf_shelf_rows_e0_looker : Nat → Int32} {cf_shelf_rows_e0_lookPlace : Nat → Int32} {cf_shelf_rows_e0_lookDay : Nat → Int32} {c_shelf_rows_e1_looks : Int32} {cf_shelf_rows_e1_start : Nat → Int32} {cf_shelf_rows_e1_looker : Nat → Int32} {cf_shelf_rows_e1_lookPlace : Nat → Int32} {cf_shelf_rows_e1_lookDay : Nat → Int32} {m_length : Int32} {mf_text : Nat → Int32} {mf_places : Nat → Int32} {mf_houses : Nat → Int32} {mf_sights : Nat → Int32} {mf_many : Nat → Int32} {mf_sizes : Nat → Int32} {mf_kinds : Nat → Int32} {mf_smoke : Nat → Int32} {mf_tide : Nat → Int32} {mf_firsts : Nat → Int32} {mf_looks : Nat → Int32} {mf_lookOf : Nat → Int32} {mf_lookAt : Nat → Int32} {mf_lookOn : Nat → Int32} {m_keptMany : Int32} {m_undoMany : Int32} {mf_undos : Nat → Int32} {m_seenMany : Int32} {mf_seenOf : Nat → Int32} {mf_seenAt : Nat → Int32} {mf_seenOn : Nat → Int32} {mf_seenThere : Nat → Int32} (hI : PInv c_text_length cf_text_bytes c_town_places c_town_skins c_town_smoke c_town_tide cf_town_house cf_town_view cf_town_girth cf_town_kind c_town_hiding_looks cf_town_hiding_start cf_town_hiding_looker cf_town_hiding_lookPlace cf_town_hiding_lookDay cf_course_finder cf_course_prize cf_course_prizeDay cB_course_path c_sightings_held cf_sightings_skinSeen cf_sightings_placeSeen cf_sightings_daySeen cf_sightings_wasThere c_changes_held cf_changes_skinHidden cf_changes_former c_shelf_held c_shelf_rows_e0_looks cf_shelf_rows_e0_start cf_shelf_rows_e0_looker cf_shelf_rows_e0_lookPlace cf_shelf_rows_e0_lookDay c_shelf_rows_e1_looks cf_shelf_rows_e1_start cf_shelf_rows_e1_looker cf_shelf_rows_e1_lookPlace cf_shelf_rows_e1_lookDay m_length mf_text mf_places mf_houses mf_sights mf_many mf_sizes mf_kinds mf_smoke mf_tide mf_firsts mf_looks mf_lookOf mf_lookAt mf_lookOn m_keptMany m_undoMany mf_undos m_seenMany mf_seenOf mf_seenAt mf_seenOn mf_seenThere) (x1 : Int32) (x2 : Int32) (x3 : Int32) : pX8_look c_town_places c_town_skins c_town_smoke c_town_hiding_looks cf_town_hiding_looker cf_town_hiding_lookPlace cf_town_hiding_lookDay c_changes_held cf_changes_skinHidden cf_changes_former cf_course_finder cf_course_prize cf_course_prizeDay cf_town_hiding_start cf_town_kind cB_course_path cf_town_house cf_town_girth x1 x2 x3 (fun (r : Int32) (o1 : Int32) (o2 : Nat → Int32) (o3 : Nat → Int32) (o4 : Nat → Int32) (o5 : Int32) (o6 : Nat → Int32) (o7 : Nat → Int32) (o8 : Nat → Int32) (o9 : Nat → Int32) (o10 : Nat → Int32) (o11 : Nat → Nat → Int32) => pX9_look m_undoMany mf_many mf_places mf_looks mf_undos mf_lookOf mf_lookAt mf_lookOn x1 x2 x3 (fun (r2 : Int32) (p1 : Int32) (p2 : Nat → Int32) (p3 : Nat → Int32) (p4 : Nat → Int32) (p5 : Nat → Int32) (p6 : Nat → Int32) => r = r2 ∧ PInv c_text_length cf_text_bytes c_town_places c_town_skins c_town_smoke c_town_tide cf_town_house cf_town_view cf_town_girth cf_town_kind o1 cf_town_hiding_start o2 o3 o4 o8 o9 o10 o11 c_sightings_held cf_sightings_skinSeen cf_sightings_placeSeen cf_sightings_daySeen cf_sightings_wasThere o5 o6 o7 c_shelf_held c_shelf_rows_e0_looks cf_shelf_rows_e0_start cf_shelf_rows_e0_looker cf_shelf_rows_e0_lookPlace cf_shelf_rows_e0_lookDay c_shelf_rows_e1_looks cf_shelf_rows_e1_start cf_shelf_rows_e1_looker cf_shelf_rows_e1_lookPlace cf_shelf_rows_e1_lookDay m_length mf_text mf_places mf_houses mf_sights mf_many mf_sizes mf_kinds mf_smoke mf_tide mf_firsts p2 p4 p5 p6 m_keptMany p1 p3 m_seenMany mf_seenOf mf_seenAt mf_seenOn mf_seenThere)) := by
  obtain ⟨tx, n, T, h, m, E, u, U, kc, G, i1, i2, i3, i4, i5, i6, i7⟩ := hI
  have fin : PInv _ _ _ _ _ _ _ _ _ _ _ _ _ _ _ _ _ _ _ _ _ _ _ _ _ _ _ _ _ _ _ _ _ _ _ _ _ _ _ _ _ _ _ _ _ _ _ _ _ _ _ _ _ _ _ _ _ _ _ _ _ := ⟨tx, n, T, h, m, E, u, U, kc, G, i1, i2, i3, i4, i5, i6, i7⟩
  have j2 := i2
  have j7 := i7
  obtain ⟨hT, rfl, rfl, rfl, rfl, hw, hv, hm, hfs, hft⟩ := i2
  obtain ⟨hh, rfl, hst, hl, hmh⟩ := i3
  obtain ⟨he, hB⟩ := i4
  obtain ⟨t1, t2, t3, t4, t5, t6, t7, t8, t9⟩ := id hT
  obtain ⟨m1, m2, m3, m4, m5⟩ := id hm
  obtain ⟨l1, l2, l3⟩ := id hmh
  have hcs := csok_crs hT hh
  have z0 : (0 : Int32).toNatClampNeg = 0 := rfl
  obtain ⟨hU, rfl, hsf, rfl, hun⟩ := i6
  have hu8 := hU.1
  unfold pX8_look pX9_look
  have h9 := hh.1
  refine s_hasSkin (by omega) (fun hx => ⟨fun q => absurd q (by decide), fun _ => ?_⟩) (fun hx => ⟨fun _ => ?_, fun q => absurd rfl q⟩)
  · obtain ⟨a, ha, rfl⟩ := hx
    refine s_hasPlace (by omega) (fun hp => ⟨fun q => absurd q (by decide), fun _ => ?_⟩) (fun hp => ⟨fun _ => ?_, fun q => absurd rfl q⟩)
    · obtain ⟨p, hp, rfl⟩ := hp
      refine s_isDay (fun hd => ⟨fun _ => ?_, fun q => absurd q (by decide)⟩) (fun hd => ⟨fun q => absurd rfl q, fun _ => ?_⟩)
      · obtain ⟨d, d1, d2, rfl⟩ := hd
        unfold pX2_addLook
        have e9 : (nI (h 0 0) < (9 : Int32)) = (h 0 0 < 9) := by rw [show (9 : Int32) = nI 9 from rfl, nI_ltI (by omega) (by omega)]
        have e9e : (nI (h 0 0) = (9 : Int32)) = (h 0 0 = 9) := by rw [show (9 : Int32) = nI 9 from rfl, nI_eq (by omega) (by omega)]
        have v9 : h 0 0 < 9 → vp_in (nI (h 0 0)) 9 := fun q => vp_in_nI q (by omega)
        rw [e9, z0, l1, e9e, nI_clamp (by omega), nI_1]
        refine ⟨fun c => ⟨v9 c, v9 c, v9 c, fun _ => ?_, fun q => absurd q (by decide)⟩, fun c => ⟨fun q => absurd rfl q, fun _ => ?_⟩⟩
        · obtain ⟨k0, k1, k2, k3, k4⟩ := hd_add hh hst hl hmh c ha hp d1 d2
          refine s_note (a := 0) (b := 0) hu8 hsf rfl rfl (fun sh2 fo2 hsf2 => ?_)
          refine s_follow (h := hput h a p d) hT (by rw [k0]) k1 hw k2 k3 (fun F H W B e5 cp => ?_)
          refine s_isSkin (by omega) m3 (fun _ => ⟨fun q => absurd q (by decide), fun _ => ?_⟩) (fun q => absurd ⟨a, ha, rfl⟩ q)
          refine s_isPlace (by omega) m1 (fun _ => ⟨fun q => absurd q (by decide), fun _ => ?_⟩) (fun q => absurd ⟨p, hp, rfl⟩ q)
          refine s_mIsDay (fun _ => ⟨fun _ => ?_, fun q => absurd q (by decide)⟩) (fun q => absurd ⟨d, d1, d2, rfl⟩ q)
          refine ⟨fun _ => ?_, fun q => by omega⟩
          refine s_mnote (a := 0) (b := 0) hu8 hun rfl rfl (fun un2 hun2 => ?_)
          unfold pX9_addLook
          have e1 : (9 : Int32) * 0 + nI (h 0 0) = nI (h 0 0) := by rw [show (9 : Int32) * 0 = nI 0 from rfl, nI_add, Nat.zero_add]
          have v4 : vp_in (0 : Int32) 4 := vp_in_nI (n := 0) (by omega) (by omega)
          have v36 : vp_in (nI (h 0 0)) 36 := vp_in_nI (by omega) (by omega)
          rw [z0, l1, e1, nI_clamp (by omega), nI_1]
          refine ⟨v4, v36, v4, v36, v4, v36, v4, v4, pk_us.symm, ?_⟩
          exact ⟨tx, n, T, hput h a p d, m, E, ulen u, uput u U 0 0, kc, G, i1, j2, ⟨k1, by rw [k0], k2, k3, k4⟩, ⟨e5, cp⟩, i5, ⟨uok_put hU (Or.inl ⟨rfl, rfl⟩) (by rw [k0, if_pos rfl]; omega), rfl, hsf2, rfl, hun2⟩, I7_kp j7 (fun _ _ => rfl) (fun j hj => pk_un (by omega)) (fun j hj => pk_un (by omega)) (fun j hj => pk_un (by omega)) (fun j hj => pk_un (by omega))⟩
        · refine s_isSkin (by omega) m3 (fun _ => ⟨fun q => absurd q (by decide), fun _ => ?_⟩) (fun q => absurd ⟨a, ha, rfl⟩ q)
          refine s_isPlace (by omega) m1 (fun _ => ⟨fun q => absurd q (by decide), fun _ => ?_⟩) (fun q => absurd ⟨p, hp, rfl⟩ q)
          refine s_mIsDay (fun _ => ⟨fun _ => ?_, fun q => absurd q (by decide)⟩) (fun q => absurd ⟨d, d1, d2, rfl⟩ q)
          exact ⟨fun q => absurd (by omega) q, fun _ => ⟨rfl, fin⟩⟩
      · refine s_isSkin (by omega) m3 (fun _ => ⟨fun q => absurd q (by decide), fun _ => ?_⟩) (fun q => absurd ⟨a, ha, rfl⟩ q)
        refine s_isPlace (by omega) m1 (fun _ => ⟨fun q => absurd q (by decide), fun _ => ?_⟩) (fun q => absurd ⟨p, hp, rfl⟩ q)
        exact s_mIsDay (fun q => absurd q hd) (fun _ => ⟨fun q => absurd rfl q, fun _ => ⟨rfl, fin⟩⟩)
    · refine s_isSkin (by omega) m3 (fun _ => ⟨fun q => absurd q (by decide), fun _ => ?_⟩) (fun q => absurd ⟨a, ha, rfl⟩ q)
      exact s_isPlace (by omega) m1 (fun q => absurd q hp) (fun _ => ⟨fun _ => ⟨rfl, fin⟩, fun q => absurd rfl q⟩)
  · exact s_isSkin (by omega) m3 (fun q => absurd q hx) (fun _ => ⟨fun _ => ⟨rfl, fin⟩, fun q => absurd rfl q⟩)
set_option maxHeartbeats 4000000 in
set_option maxRecDepth 100000 in
theorem law_undo {c_text_length : Int32} {cf_text_bytes : Nat → Int32} {c_town_places : Int32} {c_town_skins : Int32} {c_town_smoke : Int32} {c_town_tide : Int32} {cf_town_house : Nat → Int32} {cf_town_view : Nat → Int32} {cf_town_girth : Nat → Int32} {cf_town_kind : Nat → Int32} {c_town_hiding_looks : Int32} {cf_town_hiding_start : Nat → Int32} {cf_town_hiding_looker : Nat → Int32} {cf_town_hiding_lookPlace : Nat → Int32} {cf_town_hiding_lookDay : Nat → Int32} {cf_course_finder : Nat → Int32} {cf_course_prize : Nat → Int32} {cf_course_prizeDay : Nat → Int32} {cB_course_path : Nat → Nat → Int32} {c_sightings_held : Int32} {cf_sightings_skinSeen : Nat → Int32} {cf_sightings_placeSeen : Nat → Int32} {cf_sightings_daySeen : Nat → Int32} {cf_sightings_wasThere : Nat → Int32} {c_changes_held : Int32} {cf_changes_skinHidden : Nat → Int32} {cf_changes_former : Nat → Int32} {c_shelf_held : Int32} {c_shelf_rows_e0_looks : Int32} {cf_shelf_rows_e0_start : Nat → Int32} {cf_shelf_rows_e0_looker : Nat → Int32} {cf_shelf_rows_e0_lookPlace : Nat → Int32} {cf_shelf_rows_e0_lookDay : Nat → Int32} {c_shelf_rows_e1_looks : Int32} {cf_shelf_rows_e1_start : Nat → Int32} {cf_shelf_rows_e1_looker : Nat → Int32} {cf_shelf_rows_e1_lookPlace : Nat → Int32} {cf_shelf_rows_e1_lookDay : Nat → Int32} {m_length : Int32} {mf_text : Nat → Int32} {mf_places : Nat → Int32} {mf_houses : Nat → Int32} {mf_sights : Nat → Int32} {mf_many : Nat → Int32} {mf_sizes : Nat → Int32} {mf_kinds : Nat → Int32} {mf_smoke : Nat → Int32} {mf_tide : Nat → Int32} {mf_firsts : Nat → Int32} {mf_looks : Nat → Int32} {mf_lookOf : Nat → Int32} {mf_lookAt : Nat → Int32} {mf_lookOn : Nat → Int32} {m_keptMany : Int32} {m_undoMany : Int32} {mf_undos : Nat → Int32} {m_seenMany : Int32} {mf_seenOf : Nat → Int32} {mf_seenAt : Nat → Int32} {mf_seenOn : Nat → Int32} {mf_seenThere : Nat → Int32} (hI : PInv c_text_length cf_text_bytes c_town_places c_town_skins c_town_smoke c_town_tide cf_town_house cf_town_view cf_town_girth cf_town_kind c_town_hiding_looks cf_town_hiding_start cf_town_hiding_looker cf_town_hiding_lookPlace cf_town_hiding_lookDay cf_course_finder cf_course_prize cf_course_prizeDay cB_course_path c_sightings_held cf_sightings_skinSeen cf_sightings_placeSeen cf_sightings_daySeen cf_sightings_wasThere c_changes_held cf_changes_skinHidden cf_changes_former c_shelf_held c_shelf_rows_e0_looks cf_shelf_rows_e0_start cf_shelf_rows_e0_looker cf_shelf_rows_e0_lookPlace cf_shelf_rows_e0_lookDay c_shelf_rows_e1_looks cf_shelf_rows_e1_start cf_shelf_rows_e1_looker cf_shelf_rows_e1_lookPlace cf_shelf_rows_e1_lookDay m_length mf_text mf_places mf_houses mf_sights mf_many mf_sizes mf_kinds mf_smoke mf_tide mf_firsts mf_looks mf_lookOf mf_lookAt mf_lookOn m_keptMany m_undoMany mf_undos m_seenMany mf_seenOf mf_seenAt mf_seenOn mf_seenThere)  : pX8_undo c_town_places c_town_skins c_town_smoke c_changes_held cf_changes_skinHidden c_town_hiding_looks cf_changes_former cf_town_hiding_start cf_course_finder cf_course_prize cf_course_prizeDay cf_town_kind cB_course_path cf_town_house cf_town_hiding_lookDay cf_town_hiding_looker cf_town_hiding_lookPlace cf_town_girth (fun (r : Int32) (o1 : Int32) (o2 : Int32) (o3 : Nat → Int32) (o4 : Nat → Int32) (o5 : Nat → Int32) (o6 : Nat → Int32) (o7 : Nat → Nat → Int32) => pX9_undo m_undoMany mf_undos mf_looks mf_firsts (fun (r2 : Int32) (p1 : Int32) (p2 : Nat → Int32) (p3 : Nat → Int32) => r = r2 ∧ PInv c_text_length cf_text_bytes c_town_places c_town_skins c_town_smoke c_town_tide cf_town_house cf_town_view cf_town_girth cf_town_kind o2 o3 cf_town_hiding_looker cf_town_hiding_lookPlace cf_town_hiding_lookDay o4 o5 o6 o7 c_sightings_held cf_sightings_skinSeen cf_sightings_placeSeen cf_sightings_daySeen cf_sightings_wasThere o1 cf_changes_skinHidden cf_changes_former c_shelf_held c_shelf_rows_e0_looks cf_shelf_rows_e0_start cf_shelf_rows_e0_looker cf_shelf_rows_e0_lookPlace cf_shelf_rows_e0_lookDay c_shelf_rows_e1_looks cf_shelf_rows_e1_start cf_shelf_rows_e1_looker cf_shelf_rows_e1_lookPlace cf_shelf_rows_e1_lookDay m_length mf_text mf_places mf_houses mf_sights mf_many mf_sizes mf_kinds mf_smoke mf_tide p3 p2 mf_lookOf mf_lookAt mf_lookOn m_keptMany p1 mf_undos m_seenMany mf_seenOf mf_seenAt mf_seenOn mf_seenThere)) := by
  obtain ⟨tx, n, T, h, m, E, u, U, kc, G, i1, i2, i3, i4, i5, i6, i7⟩ := hI
  have fin : PInv _ _ _ _ _ _ _ _ _ _ _ _ _ _ _ _ _ _ _ _ _ _ _ _ _ _ _ _ _ _ _ _ _ _ _ _ _ _ _ _ _ _ _ _ _ _ _ _ _ _ _ _ _ _ _ _ _ _ _ _ _ := ⟨tx, n, T, h, m, E, u, U, kc, G, i1, i2, i3, i4, i5, i6, i7⟩
  have j2 := i2
  have j7 := i7
  obtain ⟨hT, rfl, rfl, rfl, rfl, hw, hv, hm, hfs, hft⟩ := i2
  obtain ⟨hh, rfl, hst, hl, hmh⟩ := i3
  obtain ⟨he, hB⟩ := i4
  obtain ⟨t1, t2, t3, t4, t5, t6, t7, t8, t9⟩ := id hT
  obtain ⟨m1, m2, m3, m4, m5⟩ := id hm
  obtain ⟨l1, l2, l3⟩ := id hmh
  have hcs := csok_crs hT hh
  have z0 : (0 : Int32).toNatClampNeg = 0 := rfl
  obtain ⟨hU, rfl, hsf, rfl, hun⟩ := i6
  have hu8 := hU.1
  unfold pX8_undo pX9_undo pX0_takeBack
  have h9 := hh.1
  cases u with
  | zero =>
    refine ⟨fun q => absurd q (by decide), fun _ => ⟨fun q => absurd rfl q, fun _ => ?_⟩⟩
    exact ⟨fun q => absurd rfl q, fun _ => ⟨rfl, fin⟩⟩
  | succ v =>
    have e1 : nI (v + 1) - 1 = nI v := by rw [show (1 : Int32) = nI 1 from rfl, pk_sub (by omega), Nat.add_sub_cancel]
    have e2 : (1 : Int32) ≤ nI (v + 1) := by rw [show (1 : Int32) = nI 1 from rfl, nI_leI (by omega) (by omega)]; omega
    have e3 : ¬ nI (v + 1) = (0 : Int32) := by rw [show (0 : Int32) = nI 0 from rfl, nI_eq (by omega) (by omega)]; omega
    have e4 : (2 : Int32) * nI v = nI (2 * v) := by rw [show (2 : Int32) = nI 2 from rfl, pk_mul]
    have w1 : vp_in (nI v) 8 := vp_in_nI (by omega) (by omega)
    have w2 : vp_in (nI (2 * v)) 16 := vp_in_nI (by omega) (by omega)
    have w3 : vp_in (nI (2 * v + 1)) 16 := vp_in_nI (by omega) (by omega)
    rw [e1, e4, nI_1, nI_clamp (by omega), nI_clamp (by omega), nI_clamp (by omega), (hsf v (by omega)).1, (hsf v (by omega)).2, (hun v (by omega)).1, (hun v (by omega)).2, z0, l1]
    have hcn := cnt_s v U
    have hU2 := hU.2.2
    have huv : ∀ h2 : Nat → Nat → Nat, cntL v U ≤ h2 0 0 → uok T h2 v U := fun h2 q => ⟨by omega, fun k hk => hU.2.1 k (by omega), q⟩
    rcases hU.2.1 v (by omega) with ⟨c1, c2⟩ | ⟨c1, c2, c3⟩
    · have h1 : 1 ≤ h 0 0 := by rw [if_pos c1] at hcn; omega
      have e5 : nI (h 0 0) - 1 = nI (h 0 0 - 1) := by rw [show (1 : Int32) = nI 1 from rfl, pk_sub h1]
      have e6 : ¬ nI (h 0 0) ≤ 0 := by rw [show (0 : Int32) = nI 0 from rfl, nI_leI (by omega) (by omega)]; omega
      obtain ⟨k0, k1, k2, k3, k4⟩ := hd_les hh hst hl hmh
      rw [c1, e5]
      refine ⟨fun _ => ⟨w1, fun _ => ⟨fun q => absurd q e6, fun _ => ⟨fun _ => ?_, fun q => absurd q (by decide)⟩⟩, fun q => absurd rfl q⟩, fun q => absurd e2 q⟩
      refine s_follow (h := hles h) hT (by rw [k0]) k1 hw k2 k3 (fun F H W B e5 cp => ?_)
      refine ⟨fun _ => ⟨w2, fun q => absurd q (by decide), fun _ => ⟨rfl, ?_⟩⟩, fun q => absurd q e3⟩
      exact ⟨tx, n, T, hles h, m, E, v, U, kc, G, i1, j2, ⟨k1, by rw [k0], k2, k3, k4⟩, ⟨e5, cp⟩, i5, ⟨huv _ (by rw [k0]; rw [if_pos c1] at hcn; omega), rfl, fun k hk => hsf k (by omega), rfl, fun k hk => hun k (by omega)⟩, I7_kp j7 (fun _ _ => rfl) (fun j hj => pk_un (by omega)) (fun _ _ => rfl) (fun _ _ => rfl) (fun _ _ => rfl)⟩
    · obtain ⟨a, ea⟩ : ∃ a, U 0 v = a + 1 := ⟨U 0 v - 1, by omega⟩
      rw [ea, Nat.add_sub_cancel] at c2
      have eS : uS (a + 1) = nI a := rfl
      have eM : uM (a + 1) = nI a := rfl
      obtain ⟨k0, k1, k2, k3, k4⟩ := hd_st (a := a) hh hst hl hmh c3
      have w5 : vp_in (nI a) 5 := vp_in_nI (by omega) (by omega)
      have w20 : vp_in (nI a) 20 := vp_in_nI (by omega) (by omega)
      have e7 : ¬ nI a = (-1 : Int32) := fun q => nI_nneg (n := a) (by omega) (by rw [q]; decide)
      have e8 : (0 : Int32) ≤ nI a := by rw [show (0 : Int32) = nI 0 from rfl, nI_leI (by omega) (by omega)]; omega
      rw [ea, eS, eM, nI_clamp (by omega)]
      refine ⟨fun _ => ⟨w1, fun q => absurd q e7, fun _ => ⟨w1, w5, fun _ => ?_, fun q => absurd q (by decide)⟩⟩, fun q => absurd e2 q⟩
      refine s_follow (h := up2 h 1 a (U 1 v)) hT (by rw [k0]) k1 hw k2 k3 (fun F H W B e5 cp => ?_)
      refine ⟨fun _ => ⟨w2, fun _ => ⟨w3, w20, rfl, ?_⟩, fun q => absurd e8 q⟩, fun q => absurd q e3⟩
      exact ⟨tx, n, T, up2 h 1 a (U 1 v), m, E, v, U, kc, G, i1, j2, ⟨k1, by rw [k0], k2, k3, k4⟩, ⟨e5, cp⟩, i5, ⟨huv _ (by rw [k0]; omega), rfl, fun k hk => hsf k (by omega), rfl, fun k hk => hun k (by omega)⟩, I7_kp j7 (fun j hj => pk_un (by omega)) (fun _ _ => rfl) (fun _ _ => rfl) (fun _ _ => rfl) (fun _ _ => rfl)⟩
