/-! ===== the reference: SURE ===== -/
theorem s_layThere {T : Nat → Nat → Nat} {i day : Nat} {fp fk fh R : Nat → Int32} {way : Int32} {K : Int32 → (Nat → Int32) → Prop} (hT : tok T) (hfp : fp 0 = nI (T 0 0)) (hfh : ∀ k, k < T 0 0 → fh k = nI (T 4 k)) (hfk : fk i = nI (T 7 i)) (hi : i < T 1 0) (hd : 1 ≤ day) (hd2 : day ≤ 60)
    (k : ∀ way M, (∀ j, j < 9 → M j = mtN T (T 7 i) day j) → K way M) : pX9_layThere way R fp fk fh (nI i) (nI day) K := by
  obtain ⟨t1, t2, t3, t4, t5, t6, t7, t8, t9⟩ := id hT
  unfold pX9_layThere
  refine it2_rule (fun x M => ∃ q, q ≤ 9 ∧ x = nI q ∧ ∀ j, j < q → M j = 0) (fun x _ => 10 - x.toNatClampNeg) ?_ _ _ ⟨0, by omega, rfl, fun j hj => by omega⟩
  rintro rec x M ⟨q, hq, rfl, hM⟩ hrec
  unfold pX9_layThere_B2
  rw [show (9 : Int32) = nI 9 from rfl, nI_leI (by omega) (by omega)]
  refine br_c (fun c => ?_) (fun c => ⟨vp_in_nI (by omega) (by omega), ?_⟩)
  · have e : q = 9 := by omega
    subst e
    refine it3_rule (fun x _ M => ∃ p, p ≤ T 0 0 ∧ x = nI p ∧ ∀ k, k < 9 → M k = fo (mtS T (T 7 i) day) p (fun _ => 0) k) (fun x _ _ => T 0 0 + 1 - x.toNatClampNeg) ?_ _ _ _ ⟨0, by omega, rfl, hM⟩
    rintro rec x way M ⟨p, hp, rfl, hM⟩ hrec
    unfold pX9_layThere_B23
    rw [show (0 : Int32).toNatClampNeg = 0 from rfl, hfp, nI_leI (by omega) (by omega)]
    refine br_c (fun c2 => ?_) (fun c2 => ⟨vp_in_nI (by omega) (by omega), ?_⟩)
    · have e : p = T 0 0 := by omega
      subst e
      exact k way M hM
    · have hpl := pos_lt (P := T 0 0) (H := T 4) (kd := T 7 i) (a := p) (d := day) (by omega)
      rw [nI_clamp (by omega), hfk]
      refine s_placeOn t2 (by omega) hfp (fun k hk => ⟨hfh k hk, by have := (t8 k hk).1; omega⟩) (by have := (t9 i hi).2.2; omega) hd (by omega) (fun way => ⟨vp_in_nI (by omega) (by omega), vp_in_nI (by omega) (by omega), ?_⟩)
      rw [nI_clamp (by omega), nI_1]
      refine hrec _ _ _ ⟨p + 1, by omega, rfl, fun k hk => ?_⟩ (by rw [nI_clamp (by omega), nI_clamp (by omega)]; omega)
      rw [fo_s, mtS]
      by_cases e : k = pos (T 0 0) (T 4) (T 7 i) p day
      · rw [e, pk_us, pk_us, hM _ (by omega)]
      · rw [pk_un e, pk_un e]; exact hM k hk
  · rw [nI_1, nI_clamp (by omega)]
    refine hrec _ _ ⟨q + 1, by omega, rfl, fun j hj => ?_⟩ (by rw [nI_clamp (by omega), nI_clamp (by omega)]; omega)
    by_cases e : j = q
    · rw [e, pk_us]
    · rw [pk_un e]; exact hM j (by omega)
theorem s_goSets {T : Nat → Nat → Nat} {kd day : Nat} {Z : Nat → Nat} {tn fp nw M : Nat → Int32} {K : (Nat → Int32) → (Nat → Int32) → Prop} (hT : tok T) (hfp : fp 0 = nI (T 0 0)) (hd : 1 ≤ day) (hd2 : day ≤ 40) (hM : ∀ j, j < 9 → M j = mtN T kd day j) (hN : ∀ k, k < 512 → nw k = nI (Z k)) (hZ : ∀ k, Z k ≤ 9)
    (h : ∀ t n, (∀ k, k < 512 → n k = nI (zS T kd day Z k)) → K t n) : pX9_goSets tn fp nw M (nI day) K := by
  obtain ⟨t1, t2, -⟩ := id hT
  unfold pX9_goSets
  refine it2_rule (fun x R => ∃ q, q ≤ 512 ∧ x = nI q ∧ ∀ j, j < q → R j = 0) (fun x _ => 513 - x.toNatClampNeg) ?_ _ _ ⟨0, by omega, rfl, fun j hj => by omega⟩
  rintro rec x R ⟨q, hq, rfl, hR⟩ hrec
  unfold pX9_goSets_B2
  rw [show (512 : Int32) = nI 512 from rfl, nI_leI (by omega) (by omega)]
  refine br_c (fun c => ?_) (fun c => ⟨vp_in_nI (by omega) (by omega), ?_⟩)
  rotate_left
  · rw [nI_1, nI_clamp (by omega)]
    refine hrec _ _ ⟨q + 1, by omega, rfl, fun j hj => ?_⟩ (by rw [nI_clamp (by omega), nI_clamp (by omega)]; omega)
    by_cases e : j = q
    · rw [e, pk_us]
    · rw [pk_un e]; exact hR j (by omega)
  have e : q = 512 := by omega
  subst e
  generalize hA : (fun q => fo (acS (T 0 0) (mtN T kd day) day Z) q (fun _ => 0)) = AA
  have hA0 : AA 0 = fun _ => 0 := by rw [← hA]; rfl
  have hAs : ∀ q, AA (q + 1) = acS (T 0 0) (mtN T kd day) day Z q (AA q) := fun q => by rw [← hA]; rfl
  have hAb : ∀ q j, AA q j ≤ 9 := fun q j => by rw [← hA]; exact ac_bd (fun _ => by omega) hZ t2 q j
  have hAe : AA 512 = zS T kd day Z := by rw [← hA]; rfl
  refine it2_rule (fun x R => ∃ q, q ≤ 512 ∧ x = nI q ∧ ∀ j, j < 512 → R j = nI (AA q j)) (fun x _ => 513 - x.toNatClampNeg) ?_ _ _ ⟨0, by omega, rfl, fun j hj => by rw [hR j hj, hA0]; rfl⟩
  rintro rec x R ⟨q, hq, rfl, hR⟩ hrec
  unfold pX9_goSets_B24
  rw [show (512 : Int32) = nI 512 from rfl, nI_leI (by omega) (by omega)]
  refine br_c (fun c => ?_) (fun c => ?_)
  · have e : q = 512 := by omega
    subst e
    refine it2_rule (fun x N => ∃ q, q ≤ 512 ∧ x = nI q ∧ ∀ j, j < q → N j = nI (zS T kd day Z j)) (fun x _ => 513 - x.toNatClampNeg) ?_ _ _ ⟨0, by omega, rfl, fun j hj => by omega⟩
    rintro rec2 x N ⟨q, hq, rfl, hN2⟩ hrec2
    unfold pX9_goSets_B138
    rw [show (512 : Int32) = nI 512 from rfl, nI_leI (by omega) (by omega)]
    refine br_c (fun c2 => ?_) (fun c2 => ⟨vp_in_nI (by omega) (by omega), vp_in_nI (by omega) (by omega), ?_⟩)
    · have e : q = 512 := by omega
      subst e
      exact h R N hN2
    · rw [nI_1, nI_clamp (by omega)]
      refine hrec2 _ _ ⟨q + 1, by omega, rfl, fun j hj => ?_⟩ (by rw [nI_clamp (by omega), nI_clamp (by omega)]; omega)
      by_cases e : j = q
      · rw [e, pk_us, hR q (by omega), hAe]
      · rw [pk_un e]; exact hN2 j (by omega)
  · have hrest : ∀ R2 : Nat → Int32, (∀ j, j < 512 → R2 j = nI (AA (q + 1) j)) → rec (nI q + 1) R2 := by
      intro R2 h2
      rw [nI_1]
      exact hrec _ _ ⟨q + 1, by omega, rfl, h2⟩ (by rw [nI_clamp (by omega), nI_clamp (by omega)]; omega)
    by_cases hz0 : Z q = 0
    · have hfin := hrest R (fun j hj => by rw [hR j hj, hAs, acS, if_pos hz0])
      refine it2_rule (fun x R2 => x = nI 0 ∧ R2 = R) (fun x _ => 1) ?_ _ _ ⟨rfl, rfl⟩
      rintro rec2 x R2 ⟨rfl, rfl⟩ hrec2
      unfold pX9_goSets_B33
      rw [nI_clamp (by omega), hN q (by omega), hz0]
      exact ⟨fun _ => hfin, fun _ => ⟨vp_in_nI (by omega) (by omega), fun _ => hfin, fun c4 => absurd (by decide) c4⟩⟩
    · generalize hG : (fun p => fo (inS (mtN T kd day) day Z q) p (AA q)) = GG
      have hG0 : GG 0 = AA q := by rw [← hG]; rfl
      have hGs : ∀ p, GG (p + 1) = inS (mtN T kd day) day Z q p (GG p) := fun p => by rw [← hG]; rfl
      have hGb : ∀ p j, p ≤ 9 → GG p j ≤ 9 := fun p j hp => by rw [← hG]; exact in_bd (hAb q) (hZ q) p hp j
      have hGe : GG (T 0 0) = AA (q + 1) := by rw [hAs, acS, if_neg hz0, ← hG]
      refine it2_rule (fun x R2 => ∃ p, p ≤ T 0 0 ∧ x = nI p ∧ ∀ j, j < 512 → R2 j = nI (GG p j)) (fun x _ => T 0 0 + 1 - x.toNatClampNeg) ?_ _ _ ⟨0, by omega, rfl, fun j hj => by rw [hR j hj, hG0]⟩
      rintro rec2 x R2 ⟨p, hp, rfl, hR2⟩ hrec2
      unfold pX9_goSets_B33
      rw [show (0 : Int32).toNatClampNeg = 0 from rfl, hfp, nI_leI (by omega) (by omega)]
      refine br_c (fun c4 => ?_) (fun c4 => ⟨vp_in_nI (by omega) (by omega), ?_⟩)
      · have e : p = T 0 0 := by omega
        subst e
        exact hrest R2 (fun j hj => by rw [hR2 j hj, hGe])
      · obtain ⟨g1, g2⟩ := tg_le (mtN T kd day) (k := q) p (by omega)
        have hzq := hZ q
        have hcont : ∀ f, f = (if day = 1 then p + 1 else Z q) → ∀ v : Int32, v = nI (mnN (GG p (tgN (mtN T kd day) q p)) f) → rec2 (nI (p + 1)) (upd R2 (tgN (mtN T kd day) q p) v) := by
          intro f hf v hv
          refine hrec2 _ _ ⟨p + 1, by omega, rfl, fun j hj => ?_⟩ (by rw [nI_clamp (by omega), nI_clamp (by omega)]; omega)
          rw [hGs, inS]
          by_cases e : j = tgN (mtN T kd day) q p
          · rw [e, pk_us, hv, upN_s, ← hf]
          · rw [pk_un e, hR2 j hj, upN_n e]
        have hRt : R2 (tgN (mtN T kd day) q p) = nI (GG p (tgN (mtN T kd day) q p)) := hR2 _ (by omega)
        have hgb := hGb p (tgN (mtN T kd day) q p) (by omega)
        rw [nI_clamp (by omega), nI_clamp (by omega), hM p (by omega), g2, hN q (by omega), nI_clamp (by omega), hRt]
        rw [show (0 : Int32) = nI 0 from rfl, nI_leI (by omega) (by omega), show (1 : Int32) = nI 1 from rfl, nI_eq (by omega) (by omega), nI_eq (by omega) (by omega), nI_leI (by omega) (by omega), nI_add p 1, nI_leI (by omega) (by omega)]
        have v5 : vp_in (nI (tgN (mtN T kd day) q p)) 512 := vp_in_nI (by omega) (by omega)
        refine ⟨fun z => by omega, fun _ => ⟨vp_in_nI (by omega) (by omega), fun c6 => ⟨vp_in_nI (by omega) (by omega), v5, fun c7 => ⟨v5, ?_⟩, fun c7 => ⟨v5, fun c8 => ⟨v5, v5, ?_⟩, fun c8 => ⟨v5, ?_⟩⟩⟩, fun c6 => ⟨v5, fun c7 => ⟨v5, ?_⟩, fun c7 => ⟨v5, fun c8 => ⟨v5, v5, ?_⟩, fun c8 => ⟨v5, ?_⟩⟩⟩⟩⟩
        · exact hcont (Z q) (by rw [if_neg c6]) _ (by rw [mnN, if_pos (Or.inl c7)])
        · exact hcont (Z q) (by rw [if_neg c6]) _ (by rw [mnN, if_neg (by omega)])
        · exact hcont (Z q) (by rw [if_neg c6]) _ (by rw [mnN, if_pos (by omega)])
        · exact hcont (p + 1) (by rw [if_pos c6]) _ (by rw [mnN, if_pos (Or.inl c7)])
        · exact hcont (p + 1) (by rw [if_pos c6]) _ (by rw [mnN, if_neg (by omega)])
        · exact hcont (p + 1) (by rw [if_pos c6]) _ (by rw [mnN, if_pos (by omega)])
