/-! ===== the best place ===== -/
theorem s_run2 {T h : Nat → Nat → Nat} {lk : Int32} {F H W st ki ho ld lo lp gi : Nat → Int32} {B : Nat → Nat → Int32} {K : (Nat → Int32) → (Nat → Int32) → (Nat → Int32) → (Nat → Nat → Int32) → Prop} (hT : tok T) (hlk : lk = nI (h 0 0)) (hh : hok T h) (hw : ctw T ho gi ki) (hst : ∀ i, i < T 1 0 → st i = nI (h 1 i)) (hl : chd h lo lp ld)
    (k : ∀ F H W B, eq5 (crs T h) F H W → K F H W B) : pX1_run F H W (nI (T 0 0)) (nI (T 1 0)) (nI (T 2 0)) st ki B ho lk ld lo lp gi K := by
  subst hlk; exact s_run hT hh hw hst hl (fun F H W B e _ => k F H W B e)
def bdN (T h : Nat → Nat → Nat) (a p : Nat) : Nat := if (crs T (up2 h 1 a p)).2.2 a = nm4 then 61 else ((crs T (up2 h 1 a p)).2.2 a).toNatClampNeg
def bsS (T h : Nat → Nat → Nat) (a p : Nat) (s : Nat × Nat) : Nat × Nat := if s.2 < bdN T h a p then (p, bdN T h a p) else s
def bsF (T h : Nat → Nat → Nat) (a p : Nat) : Nat × Nat := fo (bsS T h a) p (0, 0)
theorem hok_st {T h : Nat → Nat → Nat} {a p : Nat} (hh : hok T h) (hp : p < T 0 0) : hok T (up2 h 1 a p) := (hd_st (st := fun i => nI (h 1 i)) (lo := fun k => nI (h 2 k)) (lp := fun k => nI (h 3 k)) (ld := fun k => nI (h 4 k)) (ff := fun i => nI (h 1 i)) (fl := fun _ => nI (h 0 0)) (ml := fun k => nI (h 2 k)) (ma := fun k => nI (h 3 k)) (mo := fun k => nI (h 4 k)) hh (fun _ _ => rfl) (fun _ _ => ⟨rfl, rfl, rfl⟩) ⟨rfl, fun _ _ => rfl, fun _ _ => ⟨rfl, rfl, rfl⟩⟩ hp).2.1
theorem bd_ex {T h : Nat → Nat → Nat} {a p : Nat} (hT : tok T) (hh : hok T h) (hp : p < T 0 0) : ((crs T (up2 h 1 a p)).2.2 a = nm4 ∧ bdN T h a p = 61) ∨ ((crs T (up2 h 1 a p)).2.2 a = nI (bdN T h a p) ∧ 1 ≤ bdN T h a p ∧ bdN T h a p ≤ 60) := by
  have hc := csok_crs hT (hok_st (a := a) hh hp)
  unfold bdN
  rcases (hc a).2.2.1 with e | ⟨d, d1, d2, e⟩
  · rw [if_pos e]; exact Or.inl ⟨e, rfl⟩
  · rw [e, if_neg (nI_ne4 (by omega)), nI_clamp (by omega)]; exact Or.inr ⟨rfl, d1, d2⟩
theorem bs_bd {T h : Nat → Nat → Nat} {a : Nat} (hT : tok T) (hh : hok T h) : ∀ p, p ≤ T 0 0 → (bsF T h a p).1 ≤ p ∧ (bsF T h a p).2 ≤ 61 ∧ (1 ≤ p → 1 ≤ (bsF T h a p).2)
  | 0, _ => ⟨Nat.le_refl _, by show 0 ≤ 61; omega, fun q => by omega⟩
  | p + 1, hp => by
    have ih := bs_bd (a := a) hT hh p (by omega)
    have hb : bsF T h a (p + 1) = bsS T h a p (bsF T h a p) := rfl
    rw [hb]; unfold bsS
    rcases bd_ex (a := a) hT hh (show p < T 0 0 by omega) with e | e
    · split
      · exact ⟨by show p ≤ p + 1; omega, by show bdN T h a p ≤ 61; omega, fun _ => by show 1 ≤ bdN T h a p; omega⟩
      · exact ⟨by omega, ih.2.1, fun _ => by omega⟩
    · split
      · exact ⟨by show p ≤ p + 1; omega, by show bdN T h a p ≤ 61; omega, fun _ => by show 1 ≤ bdN T h a p; omega⟩
      · exact ⟨by omega, ih.2.1, fun _ => by omega⟩
theorem st_up {T h : Nat → Nat → Nat} {a p : Nat} {f : Nat → Int32} (hf : ∀ i, i < T 1 0 → i ≠ a → f i = nI (h 1 i)) : ∀ i, i < T 1 0 → upd f a (nI p) i = nI (up2 h 1 a p 1 i) := fun i hi => by
  by_cases c : i = a
  · subst c; rw [pk_us, up2_s]
  · rw [pk_un c, up2_n (Or.inr c)]; exact hf i hi c
theorem s_bestC {T h : Nat → Nat → Nat} {a : Nat} {F H W ts ki ho ld lo lp gi : Nat → Int32} {B : Nat → Nat → Int32} {K : Int32 → Int32 → (Nat → Int32) → (Nat → Int32) → (Nat → Int32) → (Nat → Int32) → (Nat → Nat → Int32) → Prop} (hT : tok T) (hh : hok T h) (hw : ctw T ho gi ki) (hts : ∀ i, i < T 1 0 → i ≠ a → ts i = nI (h 1 i)) (hl : chd h lo lp ld) (ha : a < T 1 0)
    (k : ∀ ts F H W B, K (nI (bsF T h a (T 0 0)).1) (nI (bsF T h a (T 0 0)).2) ts F H W B) : ∃ n_ : Nat, it8 (pX8_best_B48 (nI a) (nI (T 0 0)) (nI (T 1 0)) (nI (T 2 0)) (nI (h 0 0)) ki ho ld lo lp gi K) n_ 0 0 0 ts F H W B := by
  obtain ⟨t1, t2, t3, t4, t5, t6, t7, t8, t9⟩ := id hT
  refine it8_rule (fun x y z ts _ _ _ _ => ∃ p, p ≤ T 0 0 ∧ z = nI p ∧ x = nI (bsF T h a p).1 ∧ y = nI (bsF T h a p).2 ∧ ∀ i, i < T 1 0 → i ≠ a → ts i = nI (h 1 i)) (fun _ _ z _ _ _ _ _ => T 0 0 + 1 - z.toNatClampNeg) ?_ _ _ _ _ _ _ _ _ ⟨0, by omega, rfl, rfl, rfl, hts⟩
  rintro rec x y z ts F H W B ⟨p, hp, rfl, rfl, rfl, hts⟩ hrec
  unfold pX8_best_B48
  rw [nI_leI (by omega) (by omega)]
  refine br_c (fun c => ?_) (fun c => ?_)
  · have e : p = T 0 0 := by omega
    subst e; exact k _ _ _ _ _
  have v5 : vp_in (nI a) 5 := vp_in_nI (by omega) (by omega)
  have hpp : p < T 0 0 := by omega
  obtain ⟨b1, b2, b3⟩ := bs_bd (a := a) hT hh p hp
  have e0 : up2 h 1 a p 0 0 = h 0 0 := up2_n (Or.inl (by decide))
  have hh2 := hok_st (a := a) hh hpp
  have hb : bsF T h a (p + 1) = bsS T h a p (bsF T h a p) := rfl
  have hm : T 0 0 + 1 - (nI (p + 1)).toNatClampNeg < T 0 0 + 1 - (nI p).toNatClampNeg := by rw [nI_clamp (by omega), nI_clamp (by omega)]; omega
  rw [nI_clamp (by omega), nI_1]
  refine ⟨v5, s_run2 (h := up2 h 1 a p) hT (by rw [e0]) hh2 hw (st_up hts) (fun k hk => ?_) (fun F2 H2 W2 B2 e5 => ⟨v5, ?_⟩)⟩
  · rw [e0] at hk
    rw [up2_n (Or.inl (by decide)), up2_n (Or.inl (by decide)), up2_n (Or.inl (by decide))]; exact hl k hk
  have eW : W2 a = (crs T (up2 h 1 a p)).2.2 a := (e5 a (by omega)).2.2
  have hts2 : ∀ i, i < T 1 0 → i ≠ a → upd ts a (nI p) i = nI (h 1 i) := fun i hi q => by rw [pk_un q]; exact hts i hi q
  have no : ¬ (bsF T h a p).2 < bdN T h a p → ∀ F H W B, rec (nI (bsF T h a p).1) (nI (bsF T h a p).2) (nI (p + 1)) (upd ts a (nI p)) F H W B := fun q F H W B => hrec _ _ _ _ _ _ _ _ ⟨p + 1, by omega, rfl, by rw [hb, bsS, if_neg q], by rw [hb, bsS, if_neg q], hts2⟩ hm
  have ye : (bsF T h a p).2 < bdN T h a p → ∀ F H W B, rec (nI p) (nI (bdN T h a p)) (nI (p + 1)) (upd ts a (nI p)) F H W B := fun q F H W B => hrec _ _ _ _ _ _ _ _ ⟨p + 1, by omega, rfl, by rw [hb, bsS, if_pos q], by rw [hb, bsS, if_pos q], hts2⟩ hm
  rw [eW]
  rcases bd_ex (a := a) hT hh hpp with ⟨q1, q2⟩ | ⟨q1, q2, q3⟩
  · rw [q1, show (61 : Int32) = nI 61 from rfl, nI_leI (by omega) (by omega)]
    rw [q2] at no ye
    exact ⟨fun z => absurd rfl z, fun _ => ⟨fun q => no (by omega) _ _ _ _, fun q => ye (by omega) _ _ _ _⟩⟩
  · rw [q1, nI_leI (by omega) (by omega)]
    exact ⟨fun _ => ⟨v5, fun q => no (by omega) _ _ _ _, fun q => ye (by omega) _ _ _ _⟩, fun z => absurd z (nI_ne4 (by omega))⟩
def mD (d : Nat) : Nat := if d = 61 then 1000 else d
theorem s_bestM {T h : Nat → Nat → Nat} {a : Nat} {way : Int32} {F H W fl ln lo fm ff fk fp fh la fz fw : Nat → Int32} {K : Int32 → Int32 → Int32 → (Nat → Int32) → (Nat → Int32) → (Nat → Int32) → (Nat → Int32) → Prop} (hT : tok T) (hh : hok T h) (hm : mtw T fp fh fm fz fk fw) (hl : mhd T h ff fl lo la ln) (ha : a < T 1 0)
    (k : ∀ way tf F H W, (∀ j, j ≠ a → tf j = ff j) → K (nI (bsF T h a (T 0 0)).1) (nI (mD (bsF T h a (T 0 0)).2)) way tf F H W) : ∃ n_ : Nat, it8 (pX9_best_B37 (nI a) fm fp fl ln lo fk fh la fz fw K) n_ (-4) 0 0 way ff F H W := by
  obtain ⟨t1, t2, t3, t4, t5, t6, t7, t8, t9⟩ := id hT
  refine it8_rule (fun x y z _ tf _ _ _ => ∃ p, p ≤ T 0 0 ∧ z = nI p ∧ x = (if p = 0 then nm4 else nI (bsF T h a p).1) ∧ y = nI (mD (bsF T h a p).2) ∧ ∀ j, j ≠ a → tf j = ff j) (fun _ _ z _ _ _ _ _ => T 0 0 + 1 - z.toNatClampNeg) ?_ _ _ _ _ _ _ _ _ ⟨0, by omega, rfl, rfl, rfl, fun _ _ => rfl⟩
  rintro rec x y z way tf F H W ⟨p, hp, rfl, rfl, rfl, htf⟩ hrec
  unfold pX9_best_B37
  rw [show (0 : Int32).toNatClampNeg = 0 from rfl, hm.1, nI_leI (by omega) (by omega)]
  refine br_c (fun c => ?_) (fun c => ?_)
  · have e : p = T 0 0 := by omega
    subst e; rw [if_neg (by omega)]; exact k _ _ _ _ _ htf
  have v5 : vp_in (nI a) 5 := vp_in_nI (by omega) (by omega)
  have v20 : vp_in (nI a) 20 := vp_in_nI (by omega) (by omega)
  have hpp : p < T 0 0 := by omega
  obtain ⟨b1, b2, b3⟩ := bs_bd (a := a) hT hh p hp
  have e0 : up2 h 1 a p 0 0 = h 0 0 := up2_n (Or.inl (by decide))
  have hh2 := hok_st (a := a) hh hpp
  have hb : bsF T h a (p + 1) = bsS T h a p (bsF T h a p) := rfl
  have hmm : T 0 0 + 1 - (nI (p + 1)).toNatClampNeg < T 0 0 + 1 - (nI p).toNatClampNeg := by rw [nI_clamp (by omega), nI_clamp (by omega)]; omega
  have hmD : mD (bsF T h a p).2 ≤ 1000 := by unfold mD; split <;> omega
  rw [nI_clamp (by omega), nI_1]
  refine ⟨v20, s_goAll (h := up2 h 1 a p) hT hh2 hm ⟨by rw [e0]; exact hl.1, st_up (fun i hi q => by rw [htf i q]; exact hl.2.1 i hi), fun k hk => ?_⟩ (fun way F2 H2 W2 e5 => ⟨v5, ?_⟩)⟩
  · rw [e0] at hk
    rw [up2_n (Or.inl (by decide)), up2_n (Or.inl (by decide)), up2_n (Or.inl (by decide))]; exact hl.2.2 k hk
  have eW : W2 a = (crs T (up2 h 1 a p)).2.2 a := (e5 a (by omega)).2.2
  have htf2 : ∀ j, j ≠ a → upd tf a (nI p) j = ff j := fun j q => by rw [pk_un q]; exact htf j q
  have no : ¬ (bsF T h a p).2 < bdN T h a p → ∀ way F H W, rec (if p = 0 then nm4 else nI (bsF T h a p).1) (nI (mD (bsF T h a p).2)) (nI (p + 1)) way (upd tf a (nI p)) F H W := fun q way F H W => hrec _ _ _ _ _ _ _ _ ⟨p + 1, by omega, rfl, by
      rw [hb, bsS, if_neg q, if_neg (show ¬ p + 1 = 0 by omega)]
      by_cases z : p = 0
      · subst z
        exfalso
        have b4 : (bsF T h a 0).2 = 0 := rfl
        rcases bd_ex (a := a) hT hh hpp with e | e <;> omega
      · rw [if_neg z], by rw [hb, bsS, if_neg q], htf2⟩ hmm
  have ye : (bsF T h a p).2 < bdN T h a p → ∀ way F H W, rec (nI p) (nI (mD (bdN T h a p))) (nI (p + 1)) way (upd tf a (nI p)) F H W := fun q way F H W => hrec _ _ _ _ _ _ _ _ ⟨p + 1, by omega, rfl, by rw [hb, bsS, if_pos q, if_neg (by omega)], by rw [hb, bsS, if_pos q], htf2⟩ hmm
  have hD : ∀ d, d ≤ 60 → (d ≤ mD (bsF T h a p).2 ↔ ¬ (bsF T h a p).2 < d) := fun d hd => by unfold mD; split <;> omega
  have hD2 : 1000 ≤ mD (bsF T h a p).2 ↔ ¬ (bsF T h a p).2 < 61 := by unfold mD; split <;> omega
  rw [eW]
  rcases bd_ex (a := a) hT hh hpp with ⟨q1, q2⟩ | ⟨q1, q2, q3⟩
  · rw [q1, show (1000 : Int32) = nI 1000 from rfl, nI_leI (by omega) (by omega)]
    rw [q2] at no ye
    rw [show mD 61 = 1000 from rfl] at ye
    exact ⟨fun z => absurd z (by decide), fun _ => ⟨fun q => ⟨fun _ => no (hD2.mp q) _ _ _ _, fun z => absurd q z⟩, fun q => ⟨fun z => absurd z q, fun _ => ye (by have := mt hD2.mpr q; omega) _ _ _ _⟩⟩⟩
  · have e61 : mD (bdN T h a p) = bdN T h a p := if_neg (by omega)
    rw [e61] at ye
    have e3 : (0 : Int32) ≤ nI (bdN T h a p) := by rw [show (0 : Int32) = nI 0 from rfl, nI_leI (by omega) (by omega)]; omega
    rw [q1, nI_leI (by omega) (by omega)]
    exact ⟨fun _ => ⟨v5, fun q => ⟨fun _ => no ((hD _ q3).mp q) _ _ _ _, fun z => absurd q z⟩, fun q => ⟨fun z => absurd z q, fun _ => ye (by have := mt (hD _ q3).mpr q; omega) _ _ _ _⟩⟩, fun z => absurd e3 z⟩
/-! ===== a year ===== -/
def drN (P z k : Nat) : Nat := (7919 * z + 6151 * k + 1) * (7919 * z + 6151 * k + 1) % 65521 % P
theorem dr_eq {P z k : Nat} (hz : z ≤ 9999) (hk : k < 5) (hP1 : 1 ≤ P) (hP : P ≤ 9) : (((((((7919 : Int64) * (nI z).toInt64) + ((6151 : Int64) * (nI k).toInt64)) + (1 : Int64)) * ((((7919 : Int64) * (nI z).toInt64) + ((6151 : Int64) * (nI k).toInt64)) + (1 : Int64))) - (((((7919 : Int64) * (nI z).toInt64) + ((6151 : Int64) * (nI k).toInt64)) + (1 : Int64)) * ((((7919 : Int64) * (nI z).toInt64) + ((6151 : Int64) * (nI k).toInt64)) + (1 : Int64))) / (65521 : Int64) * (65521 : Int64)) - ((((((7919 : Int64) * (nI z).toInt64) + ((6151 : Int64) * (nI k).toInt64)) + (1 : Int64)) * ((((7919 : Int64) * (nI z).toInt64) + ((6151 : Int64) * (nI k).toInt64)) + (1 : Int64))) - (((((7919 : Int64) * (nI z).toInt64) + ((6151 : Int64) * (nI k).toInt64)) + (1 : Int64)) * ((((7919 : Int64) * (nI z).toInt64) + ((6151 : Int64) * (nI k).toInt64)) + (1 : Int64))) / (65521 : Int64) * (65521 : Int64)) / (nI P).toInt64 * (nI P).toInt64).toInt32 = nI (drN P z k) := by
  have hq : 7919 * z + 6151 * k + 1 ≤ 79206686 := by omega
  have hq2 : (7919 * z + 6151 * k + 1) * (7919 * z + 6151 * k + 1) ≤ 79206686 * 79206686 := Nat.mul_le_mul hq hq
  have hm : (7919 * z + 6151 * k + 1) * (7919 * z + 6151 * k + 1) % 65521 < 65521 := Nat.mod_lt _ (by omega)
  rw [nI_l (by omega), nI_l (by omega), nI_l (by omega), show (7919 : Int64) = lN 7919 from rfl, show (6151 : Int64) = lN 6151 from rfl, lN_mul, lN_mul, lN_add, lN_1, lN_mul, show (65521 : Int64) = lN 65521 from rfl, pk_lRem (by omega) (by omega) (by omega), pk_lRem (by omega) (by omega) (by omega), lN_i]
  rfl
def hyr (T h : Nat → Nat → Nat) (z : Nat) : Nat → Nat → Nat := fun f k => if f = 1 then drN (T 0 0) z k else h f k
theorem hyr_ok {T h : Nat → Nat → Nat} {z : Nat} (hT : tok T) (hh : hok T h) : hok T (hyr T h z) := ⟨hh.1, fun i hi => Nat.mod_lt _ (by have := hT.1; omega), hh.2.2⟩
theorem s_yearC {T h : Nat → Nat → Nat} {z : Nat} {ts : Nat → Int32} {K : (Nat → Int32) → Prop} (hT : tok T) (hz : z ≤ 9999) (k : ∀ ts, (∀ i, i < T 1 0 → ts i = nI (hyr T h z 1 i)) → K ts) : ∃ n_ : Nat, it2 (pX8_year_B22 (nI z) (nI (T 0 0)) (nI (T 1 0)) K) n_ 0 ts := by
  obtain ⟨t1, t2, t3, t4, t5, t6, t7, t8, t9⟩ := id hT
  refine it2_rule (fun x g => ∃ p, p ≤ T 1 0 ∧ x = nI p ∧ ∀ i, i < p → g i = nI (hyr T h z 1 i)) (fun x _ => T 1 0 + 1 - x.toNatClampNeg) ?_ _ _ ⟨0, by omega, rfl, fun i hi => by omega⟩
  rintro rec x g ⟨p, hp, rfl, hg⟩ hrec
  unfold pX8_year_B22
  rw [nI_leI (by omega) (by omega)]
  refine br_c (fun c => ?_) (fun c => ?_)
  · have e : p = T 1 0 := by omega
    subst e; exact k g hg
  unfold pX8_drawnPlace
  rw [dr_eq hz (by omega) t1 t2, nI_clamp (by omega), nI_1]
  refine ⟨fun _ => ⟨by decide, ?_, vp_in_nI (by omega) (by omega), hrec _ _ ⟨p + 1, by omega, rfl, fun i hi => ?_⟩ (by rw [nI_clamp (by omega), nI_clamp (by omega)]; omega)⟩, fun q => absurd ?_ q⟩
  · rw [nI_l (by omega), show (0 : Int64) = lN 0 from rfl, lN_eq (by omega) (by omega)]; omega
  · by_cases e : i = p
    · subst e; rw [pk_us]; rfl
    · rw [pk_un e]; exact hg i (by omega)
  · rw [show (1 : Int32) = nI 1 from rfl, nI_leI (by omega) (by omega)]; exact t1
theorem s_yearM {T h : Nat → Nat → Nat} {z : Nat} {fm fp ff he : Nat → Int32} {K : (Nat → Int32) → (Nat → Int32) → Prop} (hT : tok T) (hz : z ≤ 9999) (hfm : fm 0 = nI (T 1 0)) (hfp : fp 0 = nI (T 0 0))
    (k : ∀ tf he, (∀ i, i < T 1 0 → tf i = nI (hyr T h z 1 i)) → (∀ j, T 1 0 ≤ j → tf j = ff j) → (∀ i, i < T 1 0 → he i = ff i) → K tf he) : ∃ n_ : Nat, it3 (pX9_year_B26 (nI z) fm fp K) n_ 0 ff he := by
  obtain ⟨t1, t2, t3, t4, t5, t6, t7, t8, t9⟩ := id hT
  refine it3_rule (fun x g q => ∃ p, p ≤ T 1 0 ∧ x = nI p ∧ (∀ i, i < p → g i = nI (hyr T h z 1 i)) ∧ (∀ j, p ≤ j → g j = ff j) ∧ ∀ i, i < p → q i = ff i) (fun x _ _ => T 1 0 + 1 - x.toNatClampNeg) ?_ _ _ _ ⟨0, by omega, rfl, fun i hi => by omega, fun _ _ => rfl, fun i hi => by omega⟩
  rintro rec x g q ⟨p, hp, rfl, h1, h2, h3⟩ hrec
  unfold pX9_year_B26
  rw [show (0 : Int32).toNatClampNeg = 0 from rfl, hfm, hfp, nI_leI (by omega) (by omega)]
  refine br_c (fun c => ?_) (fun c => ?_)
  · have e : p = T 1 0 := by omega
    subst e; exact k g q h1 h2 h3
  rw [dr_eq hz (by omega) t1 t2, nI_clamp (by omega), nI_1]
  refine ⟨vp_in_nI (by omega) (by omega), vp_in_nI (by omega) (by omega), by decide, ?_, vp_in_nI (by omega) (by omega), hrec _ _ _ ⟨p + 1, by omega, rfl, fun i hi => ?_, fun j hj => ?_, fun i hi => ?_⟩ (by rw [nI_clamp (by omega), nI_clamp (by omega)]; omega)⟩
  · rw [nI_l (by omega), show (0 : Int64) = lN 0 from rfl, lN_eq (by omega) (by omega)]; omega
  · by_cases e : i = p
    · subst e; rw [pk_us]; rfl
    · rw [pk_un e]; exact h1 i (by omega)
  · rw [pk_un (by omega)]; exact h2 j (by omega)
  · by_cases e : i = p
    · subst e; rw [pk_us]; exact h2 i (Nat.le_refl _)
    · rw [pk_un e]; exact h3 i (by omega)
theorem s_yearL {S t : Nat} {s : CS} {fm ff F H W ft tf he : Nat → Int32} {K : Int32 → (Nat → Int32) → Prop} (hS : S ≤ 5) (hfm : fm 0 = nI S) (ht : 1 ≤ t) (ht2 : t ≤ 20) (hft : ft 0 = nI t) (hs : csok S s) (he5 : eq5 s F H W) (h1 : ∀ j, S ≤ j → tf j = ff j) (h2 : ∀ i, i < S → he i = ff i)
    (k : K (fo (lvL t 60 s.2.2) S nm4) ff) : ∃ n_ : Nat, it3 (pX9_year_B105 fm he W ft K) n_ (-4) 0 tf := by
  refine it3_rule (fun x y g => ∃ p, p ≤ S ∧ y = nI p ∧ x = fo (lvL t 60 s.2.2) p nm4 ∧ nm4.toInt ≤ x.toInt ∧ ∀ j, (j < p ∨ S ≤ j) → g j = ff j) (fun _ y _ => S + 1 - y.toNatClampNeg) ?_ _ _ _ ⟨0, by omega, rfl, rfl, Int.le_refl _, fun j hj => h1 j (by omega)⟩
  rintro rec x y g ⟨p, hp, rfl, rfl, h4, hg⟩ hrec
  unfold pX9_year_B105
  rw [show (0 : Int32).toNatClampNeg = 0 from rfl, hfm, nI_leI (by omega) (by omega)]
  refine br_c (fun c => ?_) (fun c => ⟨vp_in_nI (by omega) (by omega), vp_in_nI (by omega) (by omega), ?_⟩)
  · have e : p = S := by omega
    subst e
    have eg : g = ff := funext fun j => hg j (by omega)
    rw [eg]; exact k
  have hb : fo (lvL t 60 s.2.2) (p + 1) nm4 = lvL t 60 s.2.2 p (fo (lvL t 60 s.2.2) p nm4) := rfl
  have hm : S + 1 - (nI (p + 1)).toNatClampNeg < S + 1 - (nI p).toNatClampNeg := by rw [nI_clamp (by omega), nI_clamp (by omega)]; omega
  rw [nI_clamp (by omega), h2 p (by omega), nI_1]
  have hg2 : ∀ j, (j < p + 1 ∨ S ≤ j) → upd g p (ff p) j = ff j := fun j hj => by
    by_cases e : j = p
    · subst e; rw [pk_us]
    · rw [pk_un e]; exact hg j (by omega)
  have no : ¬ (lvB t 60 (s.2.2 p) = true ∧ fo (lvL t 60 s.2.2) p nm4 < lvD t (s.2.2 p)) → rec (fo (lvL t 60 s.2.2) p nm4) (nI (p + 1)) (upd g p (ff p)) := fun q => hrec _ _ _ ⟨p + 1, by omega, rfl, by rw [hb, lvL, if_neg q], h4, hg2⟩ hm
  have ye : (lvB t 60 (s.2.2 p) = true ∧ fo (lvL t 60 s.2.2) p nm4 < lvD t (s.2.2 p)) → rec (lvD t (s.2.2 p)) (nI (p + 1)) (upd g p (ff p)) := fun q => hrec _ _ _ ⟨p + 1, by omega, rfl, by rw [hb, lvL, if_pos q], by have := Int32.lt_iff_toInt_lt.mp q.2; omega, hg2⟩ hm
  have gO : ∀ K : Int32 → Prop, K (lvD t (s.2.2 p)) → pX9_goesOn W ft (nI p) K := fun K hK => s_goesOn hS ht ht2 hft hs he5 (by omega) hK
  refine gO _ ⟨fun q => no (fun z => ?_), fun q => gO _ ⟨fun q2 => no (fun z => ?_), fun q2 => gO _ (ye ⟨?_, ?_⟩)⟩⟩
  · unfold lvB at z
    have z1 := z.1
    rw [show nI 60 = (60 : Int32) from rfl, decide_eq_false (fun (w : ¬ (60 : Int32) < lvD t (s.2.2 p)) => w q), Bool.and_false] at z1
    exact absurd z1 (by decide)
  · have := Int32.lt_iff_toInt_lt.mp z.2
    have := Int32.le_iff_toInt_le.mp q2
    omega
  · unfold lvB
    rw [show nI 60 = (60 : Int32) from rfl, decide_eq_true q, Bool.and_true]
    refine decide_eq_true (fun w => q2 ?_)
    rw [w, show lvD t nm4 = nm4 from if_pos rfl, Int32.le_iff_toInt_le]
    exact h4
  · rw [Int32.le_iff_toInt_le] at q2
    rw [Int32.lt_iff_toInt_lt]; omega
theorem s_zC {x : Int32} {A B : Prop} (h1 : (∃ j, j ≤ 9999 ∧ x = nI j) → B) (h0 : ¬ (∃ j, j ≤ 9999 ∧ x = nI j) → A) : (x < 0 → A) ∧ (¬ (x < 0) → ((9999 < x → A) ∧ (¬ (9999 < x) → B))) := by
  have e0 : (0 : Int32).toInt = 0 := by decide
  have e9 : (9999 : Int32).toInt = 9999 := by decide
  have key : (∃ j, j ≤ 9999 ∧ x = nI j) ↔ 0 ≤ x.toInt ∧ x.toInt ≤ 9999 := by
    constructor
    · rintro ⟨j, hj, rfl⟩; rw [nI_toInt (by omega)]; omega
    · rintro ⟨q1, q2⟩
      exact ⟨x.toInt.toNat, by omega, by apply Int32.toInt_inj.mp; rw [nI_toInt (by omega)]; omega⟩
  rw [Int32.lt_iff_toInt_lt, Int32.lt_iff_toInt_lt, e0, e9]
  exact ⟨fun c => h0 (fun z => by have := key.mp z; omega), fun c => ⟨fun c2 => h0 (fun z => by have := key.mp z; omega), fun c2 => h1 (key.mpr (by omega))⟩⟩
set_option maxHeartbeats 4000000 in
set_option maxRecDepth 100000 in
theorem law_best {c_text_length : Int32} {cf_text_bytes : Nat → Int32} {c_town_places : Int32} {c_town_skins : Int32} {c_town_smoke : Int32} {c_town_tide : Int32} {cf_town_house : Nat → Int32} {cf_town_view : Nat → Int32} {cf_town_girth : Nat → Int32} {cf_town_kind : Nat → Int32} {c_town_hiding_looks : Int32} {cf_town_hiding_start : Nat → Int32} {cf_town_hiding_looker : Nat → Int32} {cf_town_hiding_lookPlace : Nat → Int32} {cf_town_hiding_lookDay : Nat → Int32} {cf_course_finder : Nat → Int32} {cf_course_prize : Nat → Int32} {cf_course_prizeDay : Nat → Int32} {cB_course_path : Nat → Nat → Int32} {c_sightings_held : Int32} {cf_sightings_skinSeen : Nat → Int32} {cf_sightings_placeSeen : Nat → Int32} {cf_sightings_daySeen : Nat → Int32} {cf_sightings_wasThere : Nat → Int32} {c_changes_held : Int32} {cf_changes_skinHidden : Nat → Int32} {cf_changes_former : Nat → Int32} {c_shelf_held : Int32} {c_shelf_rows_e0_looks : Int32} {cf_shelf_rows_e0_start : Nat → Int32} {cf_shelf_rows_e0_looker : Nat → Int32} {cf_shelf_rows_e0_lookPlace : Nat → Int32} {cf_shelf_rows_e0_lookDay : Nat → Int32} {c_shelf_rows_e1_looks : Int32} {cf_shelf_rows_e1_start : Nat → Int32} {cf_shelf_rows_e1_looker : Nat → Int32} {cf_shelf_rows_e1_lookPlace : Nat → Int32} {cf_shelf_rows_e1_lookDay : Nat → Int32} {m_length : Int32} {mf_text : Nat → Int32} {mf_places : Nat → Int32} {mf_houses : Nat → Int32} {mf_sights : Nat → Int32} {mf_many : Nat → Int32} {mf_sizes : Nat → Int32} {mf_kinds : Nat → Int32} {mf_smoke : Nat → Int32} {mf_tide : Nat → Int32} {mf_firsts : Nat → Int32} {mf_looks : Nat → Int32} {mf_lookOf : Nat → Int32} {mf_lookAt : Nat → Int32} {mf_lookOn : Nat → Int32} {m_keptMany : Int32} {m_undoMany : Int32} {mf_undos : Nat → Int32} {m_seenMany : Int32} {mf_seenOf : Nat → Int32} {mf_seenAt : Nat → Int32} {mf_seenOn : Nat → Int32} {mf_seenThere : Nat → Int32} {cf_trialStart : Nat → Int32} {cf_trial_finder : Nat → Int32} {cf_trial_prize : Nat → Int32} {cf_trial_prizeDay : Nat → Int32} {cB_trial_path : Nat → Nat → Int32} {m_way : Int32} {mf_foundBy : Nat → Int32} {mf_hers : Nat → Int32} {mf_when : Nat → Int32} (hI : PInv c_text_length cf_text_bytes c_town_places c_town_skins c_town_smoke c_town_tide cf_town_house cf_town_view cf_town_girth cf_town_kind c_town_hiding_looks cf_town_hiding_start cf_town_hiding_looker cf_town_hiding_lookPlace cf_town_hiding_lookDay cf_course_finder cf_course_prize cf_course_prizeDay cB_course_path c_sightings_held cf_sightings_skinSeen cf_sightings_placeSeen cf_sightings_daySeen cf_sightings_wasThere c_changes_held cf_changes_skinHidden cf_changes_former c_shelf_held c_shelf_rows_e0_looks cf_shelf_rows_e0_start cf_shelf_rows_e0_looker cf_shelf_rows_e0_lookPlace cf_shelf_rows_e0_lookDay c_shelf_rows_e1_looks cf_shelf_rows_e1_start cf_shelf_rows_e1_looker cf_shelf_rows_e1_lookPlace cf_shelf_rows_e1_lookDay m_length mf_text mf_places mf_houses mf_sights mf_many mf_sizes mf_kinds mf_smoke mf_tide mf_firsts mf_looks mf_lookOf mf_lookAt mf_lookOn m_keptMany m_undoMany mf_undos m_seenMany mf_seenOf mf_seenAt mf_seenOn mf_seenThere) (x1 : Int32) (x2 : Int32) : pX8_best c_town_places c_town_skins c_town_smoke c_town_hiding_looks cf_town_hiding_start cf_trialStart cf_trial_finder cf_trial_prize cf_trial_prizeDay cf_town_kind cB_trial_path cf_town_house cf_town_hiding_lookDay cf_town_hiding_looker cf_town_hiding_lookPlace cf_town_girth x1 x2 (fun (r : Int32) (o1 : Nat → Int32) (o2 : Nat → Int32) (o3 : Nat → Int32) (o4 : Nat → Int32) (o5 : Nat → Nat → Int32) => pX9_best m_way mf_many mf_firsts mf_places mf_foundBy mf_hers mf_when mf_looks mf_lookOn mf_lookOf mf_kinds mf_houses mf_lookAt mf_sizes mf_smoke x1 x2 (fun (r2 : Int32) (p1 : Int32) (p2 : Nat → Int32) (p3 : Nat → Int32) (p4 : Nat → Int32) (p5 : Nat → Int32) => r = r2 ∧ PInv c_text_length cf_text_bytes c_town_places c_town_skins c_town_smoke c_town_tide cf_town_house cf_town_view cf_town_girth cf_town_kind c_town_hiding_looks cf_town_hiding_start cf_town_hiding_looker cf_town_hiding_lookPlace cf_town_hiding_lookDay cf_course_finder cf_course_prize cf_course_prizeDay cB_course_path c_sightings_held cf_sightings_skinSeen cf_sightings_placeSeen cf_sightings_daySeen cf_sightings_wasThere c_changes_held cf_changes_skinHidden cf_changes_former c_shelf_held c_shelf_rows_e0_looks cf_shelf_rows_e0_start cf_shelf_rows_e0_looker cf_shelf_rows_e0_lookPlace cf_shelf_rows_e0_lookDay c_shelf_rows_e1_looks cf_shelf_rows_e1_start cf_shelf_rows_e1_looker cf_shelf_rows_e1_lookPlace cf_shelf_rows_e1_lookDay m_length mf_text mf_places mf_houses mf_sights mf_many mf_sizes mf_kinds mf_smoke mf_tide p2 mf_looks mf_lookOf mf_lookAt mf_lookOn m_keptMany m_undoMany mf_undos m_seenMany mf_seenOf mf_seenAt mf_seenOn mf_seenThere)) := by
  obtain ⟨tx, n, T, h, m, E, u, U, kc, G, i1, i2, i3, i4, i5, i6, i7⟩ := hI
  have fin : PInv _ _ _ _ _ _ _ _ _ _ _ _ _ _ _ _ _ _ _ _ _ _ _ _ _ _ _ _ _ _ _ _ _ _ _ _ _ _ _ _ _ _ _ _ _ _ _ _ _ _ _ _ _ _ _ _ _ _ _ _ _ := ⟨tx, n, T, h, m, E, u, U, kc, G, i1, i2, i3, i4, i5, i6, i7⟩
  have j2 := i2
  have j3 := i3
  have j4 := i4
  have j7 := i7
  obtain ⟨hT, rfl, rfl, rfl, rfl, hw, hv, hm, hfs, hft⟩ := i2
  obtain ⟨hh, rfl, hst, hl, hmh⟩ := i3
  obtain ⟨he, hB⟩ := i4
  obtain ⟨t1, t2, t3, t4, t5, t6, t7, t8, t9⟩ := id hT
  obtain ⟨m1, m2, m3, m4, m5⟩ := id hm
  obtain ⟨l1, l2, l3⟩ := id hmh
  have hcs := csok_crs hT hh
  have z0 : (0 : Int32).toNatClampNeg = 0 := rfl
  unfold pX8_best pX9_best
  refine s_hasSkin (by omega) (fun hx => ⟨fun q => absurd q (by decide), fun _ => ?_⟩) (fun hx => ⟨fun _ => ?_, fun q => absurd rfl q⟩)
  · obtain ⟨a, ha, rfl⟩ := hx
    refine s_isZeroOrOne (fun hz => ⟨fun _ => ?_, fun q => absurd q (by decide)⟩) (fun hz => ⟨fun q => absurd rfl q, fun _ => ?_⟩)
    · have v20 : vp_in (nI a) 20 := vp_in_nI (by omega) (by omega)
      obtain ⟨b1, b2, b3⟩ := bs_bd (a := a) hT hh (T 0 0) (Nat.le_refl _)
      refine s_bestC hT hh hw (fun i hi _ => ?_) hl ha (fun ts F H W B => ?_)
      · rw [show (0 : Int32).toNatClampNeg = 0 from rfl, show (5 : Int32).toNatClampNeg = 5 from rfl, pk_cpy_in (by omega) (by omega), Nat.zero_add, Nat.sub_zero]; exact hst i hi
      rw [show (60 : Int32) = nI 60 from rfl, nI_leI (by omega) (by omega), nI_clamp (by omega)]
      have hmD : mD (bsF T h a (T 0 0)).2 ≤ 1000 := by unfold mD; split <;> omega
      refine ⟨fun cx => ⟨fun c => ?_, fun c => ?_⟩, fun cx => ?_⟩
      all_goals
        refine s_isSkin (by omega) m3 (fun _ => ⟨fun q => absurd q (by decide), fun _ => ?_⟩) (fun q => absurd ⟨a, ha, rfl⟩ q)
        refine s_in0 (k := 1) (by decide) (by omega) (fun _ => ⟨fun _ => ?_, fun q => absurd q (by decide)⟩) (fun q => absurd hz q)
        refine ⟨v20, s_bestM hT hh hm hmh ha (fun way tf F H W htf => ⟨v20, ?_⟩)⟩
        have ef : upd tf a (mf_firsts a) = mf_firsts := funext fun j => by
          by_cases e : j = a
          · subst e; rw [pk_us]
          · rw [pk_un e]; exact htf j e
        rw [show (1000 : Int32) = nI 1000 from rfl, nI_eq (by omega) (by omega), ef]
        refine ⟨fun cy => ⟨fun d => ?_, fun d => ?_⟩, fun cy => ?_⟩
        all_goals first
          | exact absurd cx cy
          | exact absurd cy cx
          | exact ⟨rfl, fin⟩
          | exact ⟨by rw [mD, if_neg (by omega)], fin⟩
          | exact absurd (by rw [mD, if_pos (by omega)]) d
          | (exfalso; rw [mD, if_neg (by omega)] at d; omega)
    · refine s_isSkin (by omega) m3 (fun _ => ⟨fun q => absurd q (by decide), fun _ => ?_⟩) (fun q => absurd ⟨a, ha, rfl⟩ q)
      exact s_in0 (k := 1) (by decide) (by omega) (fun q => absurd q hz) (fun _ => ⟨fun q => absurd rfl q, fun _ => ⟨rfl, fin⟩⟩)
  · exact s_isSkin (by omega) m3 (fun q => absurd q hx) (fun _ => ⟨fun _ => ⟨rfl, fin⟩, fun q => absurd rfl q⟩)
set_option maxHeartbeats 4000000 in
set_option maxRecDepth 100000 in
theorem law_year {c_text_length : Int32} {cf_text_bytes : Nat → Int32} {c_town_places : Int32} {c_town_skins : Int32} {c_town_smoke : Int32} {c_town_tide : Int32} {cf_town_house : Nat → Int32} {cf_town_view : Nat → Int32} {cf_town_girth : Nat → Int32} {cf_town_kind : Nat → Int32} {c_town_hiding_looks : Int32} {cf_town_hiding_start : Nat → Int32} {cf_town_hiding_looker : Nat → Int32} {cf_town_hiding_lookPlace : Nat → Int32} {cf_town_hiding_lookDay : Nat → Int32} {cf_course_finder : Nat → Int32} {cf_course_prize : Nat → Int32} {cf_course_prizeDay : Nat → Int32} {cB_course_path : Nat → Nat → Int32} {c_sightings_held : Int32} {cf_sightings_skinSeen : Nat → Int32} {cf_sightings_placeSeen : Nat → Int32} {cf_sightings_daySeen : Nat → Int32} {cf_sightings_wasThere : Nat → Int32} {c_changes_held : Int32} {cf_changes_skinHidden : Nat → Int32} {cf_changes_former : Nat → Int32} {c_shelf_held : Int32} {c_shelf_rows_e0_looks : Int32} {cf_shelf_rows_e0_start : Nat → Int32} {cf_shelf_rows_e0_looker : Nat → Int32} {cf_shelf_rows_e0_lookPlace : Nat → Int32} {cf_shelf_rows_e0_lookDay : Nat → Int32} {c_shelf_rows_e1_looks : Int32} {cf_shelf_rows_e1_start : Nat → Int32} {cf_shelf_rows_e1_looker : Nat → Int32} {cf_shelf_rows_e1_lookPlace : Nat → Int32} {cf_shelf_rows_e1_lookDay : Nat → Int32} {m_length : Int32} {mf_text : Nat → Int32} {mf_places : Nat → Int32} {mf_houses : Nat → Int32} {mf_sights : Nat → Int32} {mf_many : Nat → Int32} {mf_sizes : Nat → Int32} {mf_kinds : Nat → Int32} {mf_smoke : Nat → Int32} {mf_tide : Nat → Int32} {mf_firsts : Nat → Int32} {mf_looks : Nat → Int32} {mf_lookOf : Nat → Int32} {mf_lookAt : Nat → Int32} {mf_lookOn : Nat → Int32} {m_keptMany : Int32} {m_undoMany : Int32} {mf_undos : Nat → Int32} {m_seenMany : Int32} {mf_seenOf : Nat → Int32} {mf_seenAt : Nat → Int32} {mf_seenOn : Nat → Int32} {mf_seenThere : Nat → Int32} {cf_trialStart : Nat → Int32} {cf_trial_finder : Nat → Int32} {cf_trial_prize : Nat → Int32} {cf_trial_prizeDay : Nat → Int32} {cB_trial_path : Nat → Nat → Int32} {m_way : Int32} {mf_held : Nat → Int32} {mf_foundBy : Nat → Int32} {mf_hers : Nat → Int32} {mf_when : Nat → Int32} (hI : PInv c_text_length cf_text_bytes c_town_places c_town_skins c_town_smoke c_town_tide cf_town_house cf_town_view cf_town_girth cf_town_kind c_town_hiding_looks cf_town_hiding_start cf_town_hiding_looker cf_town_hiding_lookPlace cf_town_hiding_lookDay cf_course_finder cf_course_prize cf_course_prizeDay cB_course_path c_sightings_held cf_sightings_skinSeen cf_sightings_placeSeen cf_sightings_daySeen cf_sightings_wasThere c_changes_held cf_changes_skinHidden cf_changes_former c_shelf_held c_shelf_rows_e0_looks cf_shelf_rows_e0_start cf_shelf_rows_e0_looker cf_shelf_rows_e0_lookPlace cf_shelf_rows_e0_lookDay c_shelf_rows_e1_looks cf_shelf_rows_e1_start cf_shelf_rows_e1_looker cf_shelf_rows_e1_lookPlace cf_shelf_rows_e1_lookDay m_length mf_text mf_places mf_houses mf_sights mf_many mf_sizes mf_kinds mf_smoke mf_tide mf_firsts mf_looks mf_lookOf mf_lookAt mf_lookOn m_keptMany m_undoMany mf_undos m_seenMany mf_seenOf mf_seenAt mf_seenOn mf_seenThere) (x1 : Int32) (x2 : Int32) : pX8_year c_town_places c_town_skins c_town_smoke c_town_tide cf_trialStart cf_trial_finder cf_trial_prize cf_trial_prizeDay cf_town_kind cB_trial_path cf_town_house c_town_hiding_looks cf_town_hiding_lookDay cf_town_hiding_looker cf_town_hiding_lookPlace cf_town_girth x1 x2 (fun (r : Int32) (o1 : Nat → Int32) (o2 : Nat → Int32) (o3 : Nat → Int32) (o4 : Nat → Int32) (o5 : Nat → Nat → Int32) => pX9_year m_way mf_many mf_firsts mf_held mf_places mf_foundBy mf_hers mf_when mf_looks mf_lookOn mf_lookOf mf_kinds mf_houses mf_lookAt mf_sizes mf_smoke mf_tide x1 x2 (fun (r2 : Int32) (p1 : Int32) (p2 : Nat → Int32) (p3 : Nat → Int32) (p4 : Nat → Int32) (p5 : Nat → Int32) (p6 : Nat → Int32) => r = r2 ∧ PInv c_text_length cf_text_bytes c_town_places c_town_skins c_town_smoke c_town_tide cf_town_house cf_town_view cf_town_girth cf_town_kind c_town_hiding_looks cf_town_hiding_start cf_town_hiding_looker cf_town_hiding_lookPlace cf_town_hiding_lookDay cf_course_finder cf_course_prize cf_course_prizeDay cB_course_path c_sightings_held cf_sightings_skinSeen cf_sightings_placeSeen cf_sightings_daySeen cf_sightings_wasThere c_changes_held cf_changes_skinHidden cf_changes_former c_shelf_held c_shelf_rows_e0_looks cf_shelf_rows_e0_start cf_shelf_rows_e0_looker cf_shelf_rows_e0_lookPlace cf_shelf_rows_e0_lookDay c_shelf_rows_e1_looks cf_shelf_rows_e1_start cf_shelf_rows_e1_looker cf_shelf_rows_e1_lookPlace cf_shelf_rows_e1_lookDay m_length mf_text mf_places mf_houses mf_sights mf_many mf_sizes mf_kinds mf_smoke mf_tide p2 mf_looks mf_lookOf mf_lookAt mf_lookOn m_keptMany m_undoMany mf_undos m_seenMany mf_seenOf mf_seenAt mf_seenOn mf_seenThere)) := by
  obtain ⟨tx, n, T, h, m, E, u, U, kc, G, i1, i2, i3, i4, i5, i6, i7⟩ := hI
  have fin : PInv _ _ _ _ _ _ _ _ _ _ _ _ _ _ _ _ _ _ _ _ _ _ _ _ _ _ _ _ _ _ _ _ _ _ _ _ _ _ _ _ _ _ _ _ _ _ _ _ _ _ _ _ _ _ _ _ _ _ _ _ _ := ⟨tx, n, T, h, m, E, u, U, kc, G, i1, i2, i3, i4, i5, i6, i7⟩
  have j2 := i2
  have j3 := i3
  have j4 := i4
  have j7 := i7
  obtain ⟨hT, rfl, rfl, rfl, rfl, hw, hv, hm, hfs, hft⟩ := i2
  obtain ⟨hh, rfl, hst, hl, hmh⟩ := i3
  obtain ⟨he, hB⟩ := i4
  obtain ⟨t1, t2, t3, t4, t5, t6, t7, t8, t9⟩ := id hT
  obtain ⟨m1, m2, m3, m4, m5⟩ := id hm
  obtain ⟨l1, l2, l3⟩ := id hmh
  have hcs := csok_crs hT hh
  have z0 : (0 : Int32).toNatClampNeg = 0 := rfl
  unfold pX8_year pX9_year
  refine s_zC (fun hz0 => ?_) (fun hz0 => ?_)
  · obtain ⟨z, hz9, rfl⟩ := hz0
    have k1 := hyr_ok (z := z) hT hh
    have hcy := csok_crs hT k1
    refine s_isZeroOrOne (fun hz => ⟨fun _ => ?_, fun q => absurd q (by decide)⟩) (fun hz => ⟨fun q => absurd rfl q, fun _ => ?_⟩)
    · refine s_yearC (h := h) hT hz9 (fun ts hts => ?_)
      refine s_run2 (h := hyr T h z) hT rfl k1 hw hts hl (fun F H W B e5 => ?_)
      refine ⟨fun cx => s_lastLeaveBy (d := 60) t4 t6 t7 hcy e5 ?_, fun cx => s_leaversBy (d := 60) t4 t6 t7 hcy e5 ?_⟩
      all_goals
        refine s_in0 (k := 9999) (by decide) (by omega) (fun _ => ⟨fun q => absurd q (by decide), fun _ => ?_⟩) (fun q => absurd ⟨z, hz9, rfl⟩ q)
        refine s_in0 (k := 1) (by decide) (by omega) (fun _ => ⟨fun _ => ?_, fun q => absurd q (by decide)⟩) (fun q => absurd hz q)
        refine s_yearM (h := h) hT hz9 m3 m1 (fun tf he n1 n2 n3 => ?_)
        refine s_goAll (h := hyr T h z) hT k1 hm ⟨l1, n1, l3⟩ (fun way F2 H2 W2 f5 => ?_)
        refine s_yearL t4 m3 t6 t7 hft hcy f5 n2 n3 ?_
      · exact ⟨fun _ => ⟨rfl, fin⟩, fun q => absurd q cx⟩
      · exact ⟨fun q => absurd cx q, fun _ => s_goneBy (d := 60) t4 m3 t6 t7 hft (by omega) hcy f5 ⟨rfl, fin⟩⟩
    · refine s_in0 (k := 9999) (by decide) (by omega) (fun _ => ⟨fun q => absurd q (by decide), fun _ => ?_⟩) (fun q => absurd ⟨z, hz9, rfl⟩ q)
      exact s_in0 (k := 1) (by decide) (by omega) (fun q => absurd q hz) (fun _ => ⟨fun q => absurd rfl q, fun _ => ⟨rfl, fin⟩⟩)
  · exact s_in0 (k := 9999) (by decide) (by omega) (fun q => absurd q hz0) (fun _ => ⟨fun _ => ⟨rfl, fin⟩, fun q => absurd rfl q⟩)
