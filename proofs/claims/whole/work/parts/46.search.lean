/-! ===== SURE ===== -/
theorem i32_nI (x : Int32) : ∃ m : Nat, m < 2 ^ 32 ∧ x = nI m := ⟨x.toBitVec.toNat, x.toBitVec.isLt, by apply Int32.toBitVec_inj.mp; apply BitVec.eq_of_toNat_eq; rw [pk_tn x.toBitVec.isLt]⟩
theorem and_le (k : Nat) (x : Int32) : ∃ j : Nat, j ≤ k ∧ nI k &&& x = nI j := by
  obtain ⟨m, hm, rfl⟩ := i32_nI x
  exact ⟨k &&& m, Nat.and_le_left, fa_and k m⟩
theorem sh1 : ∀ p, p < 31 → (1 : Int32) <<< (nI p &&& 31) = nI (2 ^ p) := by decide +kernel
theorem bt_N (g : Nat → Bool) : ∀ P, P ≤ 30 → ∃ b, b < 2 ^ P ∧ fo (btS g) P 0 = nI b
  | 0, _ => ⟨0, by decide, rfl⟩
  | P + 1, hP => by
    obtain ⟨b, hb, e⟩ := bt_N g P (by omega)
    rw [fo_s, btS, e]
    have h2 : 2 ^ P < 2 ^ (P + 1) := Nat.pow_lt_pow_right (by decide) (by omega)
    split
    · refine ⟨b ||| 2 ^ P, Nat.or_lt_two_pow (by omega) h2, ?_⟩
      rw [sh1 P (by omega), fa_or]
    · exact ⟨b, by omega, rfl⟩
theorem ff_eq {p : Nat → Bool} {d n : Nat} (hd : d < n) (hno : ∀ e, e < d → p e = false) (hy : p d = true) : fa_first p n = d := by
  have h1 : fa_first p n ≤ n := fa_first_le p n
  by_cases c : fa_first p n < d
  · have := fa_first_yes p n (by omega)
    rw [hno _ c] at this; exact absurd this (by decide)
  · by_cases c2 : d < fa_first p n
    · have := fa_first_no p n d c2
      rw [hy] at this; exact absurd this (by decide)
    · omega
theorem ff_none {p : Nat → Bool} {n : Nat} (hno : ∀ e, e < n → p e = false) : fa_first p n = n := by
  have h1 : fa_first p n ≤ n := fa_first_le p n
  by_cases c : fa_first p n < n
  · have := fa_first_yes p n c
    rw [hno _ c] at this; exact absurd this (by decide)
  · omega
def mtS (T : Nat → Nat → Nat) (kd day p : Nat) (M : Nat → Int32) : Nat → Int32 := upd M (pos (T 0 0) (T 4) kd p day) (M (pos (T 0 0) (T 4) kd p day) ||| ((1 : Int32) <<< (nI p &&& 31)))
/-- of each place the starts that are there on the day -/
def mtN (T : Nat → Nat → Nat) (kd day : Nat) : Nat → Int32 := fo (mtS T kd day) (T 0 0) (fun _ => 0)
def tgN (M : Nat → Int32) (k p : Nat) : Nat := (nI k &&& (M p ^^^ (-1))).toNatClampNeg
theorem tg_le (M : Nat → Int32) {k : Nat} (p : Nat) (hk : k < 2 ^ 31) : tgN M k p ≤ k ∧ nI k &&& (M p ^^^ (-1)) = nI (tgN M k p) := by
  obtain ⟨j, hj, e⟩ := and_le k (M p ^^^ (-1))
  unfold tgN
  rw [e, nI_clamp (by omega)]
  exact ⟨hj, rfl⟩
def upN (R : Nat → Nat) (k v : Nat) : Nat → Nat := fun j => if j = k then v else R j
theorem upN_s {R : Nat → Nat} {k v : Nat} : upN R k v k = v := if_pos rfl
theorem upN_n {R : Nat → Nat} {k v j : Nat} (h : j ≠ k) : upN R k v j = R j := if_neg h
def mnN (a f : Nat) : Nat := if a = 0 ∨ f < a then f else a
def inS (M : Nat → Int32) (day : Nat) (Z : Nat → Nat) (k p : Nat) (R : Nat → Nat) : Nat → Nat := upN R (tgN M k p) (mnN (R (tgN M k p)) (if day = 1 then p + 1 else Z k))
def acS (P : Nat) (M : Nat → Int32) (day : Nat) (Z : Nat → Nat) (k : Nat) (R : Nat → Nat) : Nat → Nat := if Z k = 0 then R else fo (inS M day Z k) P R
/-- the sets that can be left behind a day, with the lowest first look and 1, 0 for none -/
def zS (T : Nat → Nat → Nat) (kd day : Nat) (Z : Nat → Nat) : Nat → Nat := fo (acS (T 0 0) (mtN T kd day) day Z) 512 (fun _ => 0)
def zN (T : Nat → Nat → Nat) (kd b : Nat) (d : Nat) : Nat → Nat := fo (fun e Z => zS T kd (e + 1) Z) d (fun k => if k = b then 1 else 0)
def suD (T : Nat → Nat → Nat) (kd b : Nat) : Nat := fa_first (fun d => decide (zN T kd b (d + 1) 0 ≠ 0)) 40
def oz (z : Nat) : Int32 := if z = 0 then nm4 else nI (z - 1)
theorem oz_nm {z : Nat} (h : z < 100) : oz z = nm4 ↔ z = 0 := by
  unfold oz
  split
  · rename_i e; exact ⟨fun _ => e, fun _ => rfl⟩
  · rename_i e; exact ⟨fun q => absurd q (nI_ne4 (by omega)), fun q => absurd q e⟩
theorem mn_le {a f n : Nat} (h : a ≤ n) (h2 : f ≤ n) : mnN a f ≤ n := by unfold mnN; split <;> omega
theorem inS_lo {M : Nat → Int32} {day : Nat} {Z : Nat → Nat} {k p j : Nat} {R : Nat → Nat} (hk : k < 2 ^ 31) (hj : k < j) : inS M day Z k p R j = R j := by
  unfold inS
  rw [upN_n]
  have := (tg_le M p hk).1
  omega
theorem inF_lo {M : Nat → Int32} {day : Nat} {Z : Nat → Nat} {k j : Nat} {R : Nat → Nat} (hk : k < 2 ^ 31) (hj : k < j) : ∀ P, fo (inS M day Z k) P R j = R j
  | 0 => rfl
  | P + 1 => by rw [fo_s, inS_lo hk hj, inF_lo hk hj P]
theorem ac_lo {P : Nat} {M : Nat → Int32} {day : Nat} {Z : Nat → Nat} {j : Nat} : ∀ n, n ≤ j → n < 2 ^ 31 → fo (acS P M day Z) n (fun _ => 0) j = 0
  | 0, _, _ => rfl
  | n + 1, h, h2 => by
    rw [fo_s, acS]
    split
    · exact ac_lo n (by omega) (by omega)
    · rw [inF_lo (by omega) (by omega)]; exact ac_lo n (by omega) (by omega)
theorem ac_end {P : Nat} {M : Nat → Int32} {day : Nat} {Z : Nat → Nat} {b : Nat} {R : Nat → Nat} (hZ : ∀ k, b < k → Z k = 0) : ∀ n, fo (acS P M day Z) (b + 1 + n) R = fo (acS P M day Z) (b + 1) R
  | 0 => rfl
  | n + 1 => by
    show acS P M day Z (b + 1 + n) (fo (acS P M day Z) (b + 1 + n) R) = _
    rw [ac_end hZ n, acS, if_pos (hZ _ (by omega))]
theorem in_bd {M : Nat → Int32} {day : Nat} {Z : Nat → Nat} {k n : Nat} {R : Nat → Nat} (hR : ∀ j, R j ≤ n) (hZ : Z k ≤ n) : ∀ P, P ≤ n → ∀ j, fo (inS M day Z k) P R j ≤ n
  | 0, _, j => hR j
  | P + 1, h, j => by
    rw [fo_s, inS]
    unfold upN
    split
    · refine mn_le (in_bd hR hZ P (by omega) _) ?_
      split <;> omega
    · exact in_bd hR hZ P (by omega) j
theorem ac_bd {P : Nat} {M : Nat → Int32} {day : Nat} {Z : Nat → Nat} {n : Nat} {R : Nat → Nat} (hR : ∀ j, R j ≤ n) (hZ : ∀ k, Z k ≤ n) (hP : P ≤ n) : ∀ q j, fo (acS P M day Z) q R j ≤ n
  | 0, j => hR j
  | q + 1, j => by
    rw [fo_s, acS]
    split
    · exact ac_bd hR hZ hP q j
    · exact in_bd (fun j => ac_bd hR hZ hP q j) (hZ q) P hP j
theorem zN_bd {T : Nat → Nat → Nat} {kd b : Nat} (hT : tok T) : ∀ d k, zN T kd b d k ≤ 9
  | 0, k => by show (if k = b then 1 else 0) ≤ 9; split <;> omega
  | d + 1, k => ac_bd (fun _ => by omega) (fun k => zN_bd hT d k) hT.2.1 512 k
theorem zN_lo {T : Nat → Nat → Nat} {kd b : Nat} (hb : b < 512) : ∀ d k, b < k → zN T kd b d k = 0
  | 0, k, h => if_neg (by omega)
  | d + 1, k, h => by
    show fo (acS (T 0 0) (mtN T kd (d + 1)) (d + 1) (zN T kd b d)) 512 (fun _ => 0) k = 0
    have e := ac_end (P := T 0 0) (M := mtN T kd (d + 1)) (day := d + 1) (Z := zN T kd b d) (b := b) (R := fun _ => 0) (fun k hk => zN_lo hb d k hk) (512 - (b + 1))
    rw [show b + 1 + (512 - (b + 1)) = 512 by omega] at e
    rw [e]
    exact ac_lo _ (by omega) (by omega)
theorem s_leave {O : Nat → Int32} {j z f : Nat} {K : (Nat → Int32) → Prop} (hj : j < 512) (hO : O j = oz z) (hz : z ≤ 9) (hf : 1 ≤ f) (hf2 : f ≤ 9)
    (h : ∀ O2 : Nat → Int32, O2 j = oz (mnN z f) → (∀ i, i ≠ j → O2 i = O i) → K O2) : pX4_leave O (nI j) (nI (f - 1)) K := by
  unfold pX4_leave
  rw [nI_clamp (by omega), hO, nm4_rfl, oz_nm (by omega)]
  refine ⟨vp_in_nI (by omega) (by omega), fun c => ⟨vp_in_nI (by omega) (by omega), h _ ?_ (fun i hi => pk_un hi)⟩, fun c => ⟨vp_in_nI (by omega) (by omega), ?_⟩⟩
  · rw [pk_us, mnN, if_pos (Or.inl c), oz, if_neg (by omega)]
  · rw [show oz z = nI (z - 1) from if_neg c, nI_leI (by omega) (by omega)]
    refine ⟨fun c2 => h _ ?_ (fun i hi => rfl), fun c2 => ⟨vp_in_nI (by omega) (by omega), h _ ?_ (fun i hi => pk_un hi)⟩⟩
    · rw [hO, mnN, if_neg (by omega)]
    · rw [pk_us, mnN, if_pos (by omega), oz, if_neg (by omega)]
theorem s_lookOnce {T : Nat → Nat → Nat} {kd day b : Nat} {Z : Nat → Nat} {M0 O : Nat → Int32} {B : Nat → Nat → Int32} {K : (Nat → Int32) → (Nat → Int32) → Prop} (hT : tok T) (hd : 1 ≤ day) (hd2 : day ≤ 40) (hb : b < 512) (hB : ∀ p, p < T 0 0 → B p day = nI (pos (T 0 0) (T 4) kd p day)) (hO : ∀ k, k < 512 → O k = oz (Z k)) (hZ : ∀ k, Z k ≤ 9) (hZ2 : ∀ k, b < k → Z k = 0)
    (h : ∀ M O2, (∀ k, k < 512 → O2 k = oz (zS T kd day Z k)) → K M O2) : pX4_lookOnce M0 (nI (T 0 0)) B O (nI day) (nI b) K := by
  obtain ⟨t1, t2, -⟩ := id hT
  unfold pX4_lookOnce
  refine s_fill (by omega) (fun M hM => ?_)
  refine it2_rule (fun x M => ∃ p, p ≤ T 0 0 ∧ x = nI p ∧ ∀ k, k < 9 → M k = fo (mtS T kd day) p (fun _ => 0) k) (fun x _ => T 0 0 + 1 - x.toNatClampNeg) ?_ _ _ ⟨0, by omega, rfl, hM⟩
  rintro rec x M ⟨p, hp, rfl, hM⟩ hrec
  unfold pX4_lookOnce_B11
  rw [nI_leI (by omega) (by omega)]
  refine br_c (fun c => ?_) (fun c => ?_)
  · have e : p = T 0 0 := by omega
    subst e
    have hM : ∀ k, k < 9 → M k = mtN T kd day k := hM
    generalize hA : (fun q => fo (acS (T 0 0) (mtN T kd day) day Z) q (fun _ => 0)) = AA
    have hA0 : AA 0 = fun _ => 0 := by rw [← hA]; rfl
    have hAs : ∀ q, AA (q + 1) = acS (T 0 0) (mtN T kd day) day Z q (AA q) := fun q => by rw [← hA]; rfl
    have hAl : ∀ q j, q ≤ j → q < 2 ^ 31 → AA q j = 0 := fun q j h1 h2 => by rw [← hA]; exact ac_lo q h1 h2
    have hAb : ∀ q j, AA q j ≤ 9 := fun q j => by rw [← hA]; exact ac_bd (fun _ => by omega) hZ t2 q j
    have hAe : AA (b + 1) = zS T kd day Z := by
      rw [← hA]
      have e := ac_end (P := T 0 0) (M := mtN T kd day) (day := day) (Z := Z) (b := b) (R := fun _ => 0) hZ2 (512 - (b + 1))
      rw [show b + 1 + (512 - (b + 1)) = 512 by omega] at e
      exact e.symm
    refine it2_rule (fun x O => ∃ q, q ≤ b + 1 ∧ x = nI q ∧ ∀ k, k < 512 → O k = if k < q then oz (AA q k) else oz (Z k)) (fun x _ => b + 2 - x.toNatClampNeg) ?_ _ _ ⟨0, by omega, rfl, fun k hk => by rw [if_neg (by omega)]; exact hO k hk⟩
    rintro rec x O ⟨q, hq, rfl, hO⟩ hrec
    unfold pX4_lookOnce_B50
    rw [nI_ltI (by omega) (by omega)]
    refine br_c (fun c => ?_) (fun c => ⟨vp_in_nI (by omega) (by omega), vp_in_nI (by omega) (by omega), ?_⟩)
    · have e : q = b + 1 := by omega
      subst e
      refine h M O (fun k hk => ?_)
      rw [hO k hk, ← hAe]
      split
      · rfl
      · rw [hZ2 k (by omega), hAl _ k (by omega) (by omega)]
    · have hq5 : q < 512 := by omega
      have hrest : ∀ O2 : Nat → Int32, (∀ k, k < 512 → O2 k = if k < q + 1 then oz (AA (q + 1) k) else oz (Z k)) → rec (nI q + 1) O2 := by
        intro O2 h2
        rw [nI_1]
        exact hrec _ _ ⟨q + 1, by omega, rfl, h2⟩ (by rw [nI_clamp (by omega), nI_clamp (by omega)]; omega)
      have hOq : O q = oz (Z q) := by rw [hO q (by omega), if_neg (by omega)]
      rw [nI_clamp (by omega), hOq, nm4_rfl]
      have hstart : ∀ k, k < 512 → upd O q nm4 k = if k < q + 1 then oz (AA q k) else oz (Z k) := by
        intro k hk
        by_cases e : k = q
        · rw [e, pk_us, if_pos (by omega), hAl q q (by omega) (by omega)]; rfl
        · rw [pk_un e, hO k hk]
          by_cases c3 : k < q
          · rw [if_pos c3, if_pos (by omega)]
          · rw [if_neg c3, if_neg (by omega)]
      by_cases hz0 : Z q = 0
      · refine it2_rule (fun x O2 => x = nI 0 ∧ O2 = upd O q nm4) (fun x _ => 1) ?_ _ _ ⟨rfl, rfl⟩
        rintro rec2 x O2 ⟨rfl, rfl⟩ hrec2
        unfold pX4_lookOnce_B77
        have hfin : rec (nI q + 1) (upd O q nm4) := hrest _ (fun k hk => by rw [hstart k hk, hAs, acS, if_pos hz0])
        refine ⟨fun _ => hfin, fun _ => ⟨fun _ => hfin, fun c4 => ?_⟩⟩
        exact absurd ((oz_nm (by omega)).mpr hz0) c4
      · generalize hG : (fun p => fo (inS (mtN T kd day) day Z q) p (AA q)) = GG
        have hG0 : GG 0 = AA q := by rw [← hG]; rfl
        have hGs : ∀ p, GG (p + 1) = inS (mtN T kd day) day Z q p (GG p) := fun p => by rw [← hG]; rfl
        have hGb : ∀ p j, p ≤ 9 → GG p j ≤ 9 := fun p j hp => by rw [← hG]; exact in_bd (hAb q) (hZ q) p hp j
        have hGe : GG (T 0 0) = AA (q + 1) := by rw [hAs, acS, if_neg hz0, ← hG]
        refine it2_rule (fun x O2 => ∃ p, p ≤ T 0 0 ∧ x = nI p ∧ ∀ k, k < 512 → O2 k = if k < q + 1 then oz (GG p k) else oz (Z k)) (fun x _ => T 0 0 + 1 - x.toNatClampNeg) ?_ _ _ ⟨0, by omega, rfl, fun k hk => by rw [hstart k hk, hG0]⟩
        rintro rec2 x O2 ⟨p, hp, rfl, hO2⟩ hrec2
        unfold pX4_lookOnce_B77
        rw [nI_leI (by omega) (by omega)]
        refine br_c (fun c4 => ?_) (fun c4 => ⟨fun c5 => absurd ((oz_nm (by have := hZ q; omega)).mp c5) hz0, fun c5 => ⟨vp_in_nI (by omega) (by omega), ?_⟩⟩)
        · have e : p = T 0 0 := by omega
          subst e
          exact hrest O2 (fun k hk => by rw [hO2 k hk, hGe])
        · obtain ⟨g1, g2⟩ := tg_le (mtN T kd day) (k := q) p (by omega)
          have hMp : M p = mtN T kd day p := hM p (by omega)
          have hcont : ∀ f, f = (if day = 1 then p + 1 else Z q) → ∀ O3 : Nat → Int32, O3 (tgN (mtN T kd day) q p) = oz (mnN (GG p (tgN (mtN T kd day) q p)) f) → (∀ i, i ≠ tgN (mtN T kd day) q p → O3 i = O2 i) → rec2 (nI p + 1) O3 := by
            intro f hf O3 h3 h4
            rw [nI_1]
            refine hrec2 _ _ ⟨p + 1, by omega, rfl, fun k hk => ?_⟩ (by rw [nI_clamp (by omega), nI_clamp (by omega)]; omega)
            rw [hGs, inS]
            by_cases e : k = tgN (mtN T kd day) q p
            · rw [e, h3, if_pos (by omega), upN_s, ← hf]
            · rw [h4 k e, hO2 k hk, upN_n e]
          have hOt : O2 (tgN (mtN T kd day) q p) = oz (GG p (tgN (mtN T kd day) q p)) := by rw [hO2 _ (by omega), if_pos (by omega)]
          rw [nI_clamp (by omega), hMp, g2, show (1 : Int32) = nI 1 from rfl, nI_eq (by omega) (by omega)]
          refine ⟨fun c6 => ?_, fun c6 => ?_⟩
          · rw [show oz (Z q) = nI (Z q - 1) from if_neg hz0]
            exact s_leave (by omega) hOt (hGb p _ (by omega)) (by omega) (hZ q) (hcont (Z q) (by rw [if_neg c6]))
          · have := s_leave (f := p + 1) (by omega) hOt (hGb p _ (by omega)) (by omega) (by omega) (hcont (p + 1) (by rw [if_pos c6]))
            exact this
  · have hpl := pos_lt (P := T 0 0) (H := T 4) (kd := kd) (a := p) (d := day) (by omega)
    rw [nI_clamp (by omega), nI_clamp (by omega), hB p (by omega), nI_clamp (by omega), nI_1]
    refine ⟨vp_in_nI (by omega) (by omega), vp_in_nI (by omega) (by omega), vp_in_nI (by omega) (by omega), vp_in_nI (by omega) (by omega), ?_⟩
    refine hrec _ _ ⟨p + 1, by omega, rfl, fun k hk => ?_⟩ (by rw [nI_clamp (by omega), nI_clamp (by omega)]; omega)
    rw [fo_s, mtS]
    by_cases e : k = pos (T 0 0) (T 4) kd p day
    · rw [e, pk_us, pk_us, hM _ (by omega)]
    · rw [pk_un e, pk_un e]; exact hM k hk
theorem s_srun {T : Nat → Nat → Nat} {kd b : Nat} {O ho M : Nat → Int32} {B : Nat → Nat → Int32} {K : Int32 → Int32 → (Nat → Int32) → (Nat → Nat → Int32) → (Nat → Int32) → Prop} (hT : tok T) (hho : ∀ k, k < T 0 0 → ho k = nI (T 4 k)) (hk : kd < 100) (hb : b < 512)
    (h0 : b = 0 → ∀ O B M, K 0 nm4 O B M) (h1 : 0 < b → suD T kd b < 40 → ∀ O B M, K (nI (suD T kd b + 1)) (nI (zN T kd b (suD T kd b + 1) 0 - 1)) O B M) (h2 : 0 < b → suD T kd b = 40 → ∀ O B M, K nm4 nm4 O B M) : pX4_run O (nI (T 0 0)) B ho M (nI kd) (nI b) K := by
  obtain ⟨t1, t2, t3, t4, t5, t6, t7, t8, t9⟩ := id hT
  unfold pX4_run
  rw [show (0 : Int32) = nI 0 from rfl, nI_leI (by omega) (by omega), show (512 : Int32) = nI 512 from rfl, nI_ltI (by omega) (by omega)]
  refine br_c (fun c => h0 (by omega) _ _ _) (fun c => br_t hb ?_)
  refine it2_rule (fun x B => ∃ p, p ≤ T 0 0 ∧ x = nI p ∧ ∀ j, j < p → ∀ d, 1 ≤ d → d ≤ 40 → B j d = nI (pos (T 0 0) (T 4) kd j d)) (fun x _ => T 0 0 + 1 - x.toNatClampNeg) ?_ _ _ ⟨0, by omega, rfl, fun j hj => by omega⟩
  rintro rec x B ⟨p, hp, rfl, hB⟩ hrec
  unfold pX4_run_B28
  rw [nI_leI (by omega) (by omega)]
  refine br_c (fun c2 => ?_) (fun c2 => ⟨vp_in_nI (by omega) (by omega), ?_⟩)
  · have e : p = T 0 0 := by omega
    subst e
    refine s_fill (by omega) (fun O hO => ⟨vp_in_nI (by omega) (by omega), ?_⟩)
    rw [nI_clamp (by omega)]
    refine it3_rule (fun x O _ => ∃ d, d ≤ 40 ∧ x = nI (d + 1) ∧ (∀ k, k < 512 → O k = oz (zN T kd b d k)) ∧ ∀ e, e < d → zN T kd b (e + 1) 0 = 0) (fun x _ _ => 42 - x.toNatClampNeg) ?_ _ _ _ ⟨0, by omega, rfl, fun k hk => ?_, fun e he => by omega⟩
    · rintro rec x O M ⟨d, hd, rfl, hO, hz⟩ hrec
      unfold pX4_run_B76
      rw [show (40 : Int32) = nI 40 from rfl, nI_ltI (by omega) (by omega)]
      refine br_c (fun c3 => ?_) (fun c3 => ?_)
      · have e : d = 40 := by omega
        subst e
        exact h2 (by omega) (ff_none (fun e he => by simp [hz e he])) _ _ _
      · refine s_lookOnce hT (by omega) (by omega) hb (fun p hp => hB p hp _ (by omega) (by omega)) hO (zN_bd hT d) (zN_lo hb d) (fun M O2 hO2 => ?_)
        have hO2 : ∀ k, k < 512 → O2 k = oz (zN T kd b (d + 1) k) := hO2
        rw [show (0 : Int32).toNatClampNeg = 0 from rfl, hO2 0 (by omega), nm4_rfl, oz_nm (by have := zN_bd (kd := kd) (b := b) hT (d + 1) 0; omega), nI_1]
        refine ⟨fun c4 => ?_, fun c4 => ?_⟩
        · refine hrec _ _ _ ⟨d + 1, by omega, rfl, hO2, fun e he => ?_⟩ (by rw [nI_clamp (by omega), nI_clamp (by omega)]; omega)
          by_cases e2 : e = d
          · rw [e2]; exact c4
          · exact hz e (by omega)
        · have hs : suD T kd b = d := ff_eq (by omega) (fun e he => by simp [hz e he]) (by simp [c4])
          have hK := h1 (by omega) (by omega) O2 B M
          rw [hs] at hK
          show K (nI (d + 1)) (O2 0) O2 B M
          rw [hO2 0 (by omega), show oz (zN T kd b (d + 1) 0) = nI (zN T kd b (d + 1) 0 - 1) from if_neg c4]
          exact hK
    · rw [nI_clamp (by omega)]
      show upd O b (nI 0) k = oz (if k = b then 1 else 0)
      by_cases e : k = b
      · rw [e, pk_us, if_pos rfl]; rfl
      · rw [pk_un e, if_neg e]; exact hO k hk
  · rw [nI_clamp (by omega)]
    refine s_walk t2 (by omega) (fun k hk => ⟨hho k hk, by have := (t8 k hk).1; omega⟩) hk (by omega) (fun g hg => ?_)
    rw [nI_1]
    refine hrec _ _ ⟨p + 1, by omega, rfl, fun j hj d d1 d2 => ?_⟩ (by rw [nI_clamp (by omega), nI_clamp (by omega)]; omega)
    by_cases e : j = p
    · rw [e, updR_s]; exact hg d d1 (by omega) (by omega)
    · rw [updR_n e]; exact hB j (by omega) d d1 d2
