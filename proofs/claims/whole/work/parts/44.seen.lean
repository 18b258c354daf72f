/-! ===== what was seen: E 0 skin, 1 place, 2 day, 3 there ===== -/
def eok (T : Nat → Nat → Nat) (m : Nat) (E : Nat → Nat → Nat) : Prop := m ≤ 8 ∧ ∀ k, k < m → E 0 k < T 1 0 ∧ E 1 k < T 0 0 ∧ 1 ≤ E 2 k ∧ E 2 k ≤ 60 ∧ E 3 k ≤ 1
def csn (m : Nat) (E : Nat → Nat → Nat) (sk pl dy th : Nat → Int32) : Prop := ∀ k, k < m → sk k = nI (E 0 k) ∧ pl k = nI (E 1 k) ∧ dy k = nI (E 2 k) ∧ th k = nI (E 3 k)
def agS (T : Nat → Nat → Nat) (E : Nat → Nat → Nat) (i a kd : Nat) (k : Nat) (b : Bool) : Bool := b && (decide (¬ E 0 k = i) || (decide (pos (T 0 0) (T 4) kd a (E 2 k) = E 1 k) == decide (E 3 k = 1)))
/-- the skin's way agrees with all that was seen of it -/
def agN (T : Nat → Nat → Nat) (m : Nat) (E : Nat → Nat → Nat) (i a kd : Nat) : Bool := fo (agS T E i a kd) m true
theorem ag_stop {T E : Nat → Nat → Nat} {i a kd k : Nat} (h : fo (agS T E i a kd) k true = false) : ∀ n, fo (agS T E i a kd) (k + n) true = false
  | 0 => h
  | n + 1 => by
    show agS T E i a kd (k + n) (fo (agS T E i a kd) (k + n) true) = false
    rw [ag_stop h n]; rfl
theorem s_agree {T E : Nat → Nat → Nat} {m i a kd : Nat} {p0 ho gi ki sk pl dy th : Nat → Int32} {K : Int32 → (Nat → Int32) → Prop} (hT : tok T) (hw : ctw T ho gi ki) (hE : eok T m E) (hs : csn m E sk pl dy th) (hi : i < T 1 0) (ha : a < T 0 0) (hk : kd < 100)
    (k : ∀ g, K (if agN T m E i a kd = true then 1 else 0) g) : pX6_agree (nI m) p0 (nI (T 0 0)) ho sk dy pl th (nI i) (nI a) (nI kd) K := by
  obtain ⟨t1, t2, t3, t4, t5, t6, t7, t8, t9⟩ := hT
  obtain ⟨hm, hE⟩ := hE
  unfold pX6_agree
  refine s_walk t2 ha (fun k hk => ⟨hw.1 k hk, by have := (t8 k hk).1; omega⟩) hk (by omega) (fun g hg => ?_)
  have k := k g
  unfold agN at k
  refine it1_rule (fun x => ∃ q, q ≤ m ∧ x = nI q ∧ fo (agS T E i a kd) q true = true) (fun x => m + 1 - x.toNatClampNeg) ?_ _ ⟨0, by omega, rfl, rfl⟩
  rintro rec x ⟨q, hq, rfl, hb⟩ hrec
  unfold pX6_agree_B14
  rw [nI_leI (by omega) (by omega)]
  have hst : fo (agS T E i a kd) (q + 1) true = agS T E i a kd q true := by rw [fo_s, hb]
  refine br_c (fun c => ?_) (fun c => ⟨vp_in_nI (by omega) (by omega), ?_⟩)
  · have e : q = m := by omega
    subst e
    rw [if_pos hb] at k; exact k
  obtain ⟨e1, e2, e3, e4, e5⟩ := hE q (by omega)
  obtain ⟨f1, f2, f3, f4⟩ := hs q (by omega)
  have hgo : agS T E i a kd q true = true → rec (nI q + 1) := by
    intro e
    rw [nI_1]
    exact hrec _ ⟨q + 1, by omega, rfl, by rw [hst]; exact e⟩ (by rw [nI_clamp (by omega), nI_clamp (by omega)]; omega)
  have hno : agS T E i a kd q true = false → K 0 g := by
    intro e
    have := ag_stop (hst.trans e) (m - (q + 1))
    rw [show q + 1 + (m - (q + 1)) = m by omega] at this
    rw [this] at k
    exact k
  rw [nI_clamp (by omega), f1, f2, f3, f4, nI_eq (by omega) (by omega), nI_clamp (by omega), hg (E 2 q) e3 e4 (by omega), nI_eq (by have := pos_lt (P := T 0 0) (H := T 4) (kd := kd) (d := E 2 q) ha; omega) (by omega), show (0 : Int32) = nI 0 from rfl, show (1 : Int32) = nI 1 from rfl, nI_eq (by omega) (by omega), nI_eq (by omega) (by omega)]
  unfold agS at hgo hno
  refine ⟨fun c1 => hgo (by simp [c1]), fun c1 => ⟨vp_in_nI (by omega) (by omega), vp_in_nI (by omega) (by omega), vp_in_nI (by omega) (by omega), fun c2 => ⟨vp_in_nI (by omega) (by omega), fun c3 => hgo ?_, fun c3 => hno ?_⟩, fun c2 => ⟨vp_in_nI (by omega) (by omega), fun c3 => hgo ?_, fun c3 => hno ?_⟩⟩⟩
  · have : ¬ E 3 q = 1 := by omega
    simp [c2, this]
  · have : E 3 q = 1 := by omega
    simp [c1, c2, this]
  · have : E 3 q = 1 := by omega
    simp [c2, this]
  · have : ¬ E 3 q = 1 := by omega
    simp [c1, c2, this]
def btS (g : Nat → Bool) (p : Nat) (x : Int32) : Int32 := if g p = true then x ||| ((1 : Int32) <<< (nI p &&& 31)) else x
/-- STARTS as bits -/
def stB (T : Nat → Nat → Nat) (m : Nat) (E : Nat → Nat → Nat) (i : Nat) : Int32 := fo (btS (fun p => agN T m E i p (T 7 i))) (T 0 0) 0
/-- LAWS as bits -/
def lwB (T h : Nat → Nat → Nat) (m : Nat) (E : Nat → Nat → Nat) (i : Nat) : Int32 := fo (btS (fun kd => agN T m E i (h 1 i) kd)) 4 0
theorem s_possibleStarts {T E : Nat → Nat → Nat} {m i : Nat} {p0 ho gi ki sk pl dy th : Nat → Int32} {K : Int32 → (Nat → Int32) → Prop} (hT : tok T) (hw : ctw T ho gi ki) (hE : eok T m E) (hs : csn m E sk pl dy th) (hi : i < T 1 0)
    (k : ∀ g, K (stB T m E i) g) : pX8_possibleStarts (nI (T 0 0)) ki (nI m) p0 ho sk dy pl th (nI i) K := by
  obtain ⟨t1, t2, t3, t4, t5, t6, t7, t8, t9⟩ := id hT
  unfold pX8_possibleStarts
  refine it3_rule (fun x y _ => ∃ p, p ≤ T 0 0 ∧ y = nI p ∧ x = fo (btS (fun p => agN T m E i p (T 7 i))) p 0) (fun _ y _ => T 0 0 + 1 - y.toNatClampNeg) ?_ _ _ _ ⟨0, by omega, rfl, rfl⟩
  rintro rec x y g ⟨p, hp, rfl, rfl⟩ hrec
  unfold pX8_possibleStarts_B4
  rw [nI_leI (by omega) (by omega)]
  refine br_c (fun c => ?_) (fun c => ⟨vp_in_nI (by omega) (by omega), ?_⟩)
  · have e : p = T 0 0 := by omega
    subst e; exact k g
  rw [nI_clamp (by omega), (hw.2 i hi).2]
  refine s_agree hT hw hE hs hi (by omega) (by have := (t9 i hi).2.2; omega) (fun g => ?_)
  have hb := fo_s (btS (fun p => agN T m E i p (T 7 i))) p 0
  by_cases c2 : agN T m E i p (T 7 i) = true
  · rw [if_pos c2]
    refine ⟨fun q => absurd q (by decide), fun _ => ?_⟩
    rw [nI_1]
    exact hrec _ _ _ ⟨p + 1, by omega, rfl, by rw [hb, btS, if_pos c2]⟩ (by rw [nI_clamp (by omega), nI_clamp (by omega)]; omega)
  · rw [if_neg c2]
    refine ⟨fun _ => ?_, fun q => absurd rfl q⟩
    rw [nI_1]
    exact hrec _ _ _ ⟨p + 1, by omega, rfl, by rw [hb, btS, if_neg c2]⟩ (by rw [nI_clamp (by omega), nI_clamp (by omega)]; omega)
theorem s_laws {T h E : Nat → Nat → Nat} {m i : Nat} {p0 st ho gi ki sk pl dy th : Nat → Int32} {K : Int32 → (Nat → Int32) → Prop} (hT : tok T) (hh : hok T h) (hw : ctw T ho gi ki) (hst : ∀ i, i < T 1 0 → st i = nI (h 1 i)) (hE : eok T m E) (hs : csn m E sk pl dy th) {x1 : Int32}
    (k0 : (¬ ∃ i, i < T 1 0 ∧ x1 = nI i) → K (-1) p0) (k : ∀ i g, i < T 1 0 → x1 = nI i → K (lwB T h m E i) g) : pX8_laws (nI (T 0 0)) (nI (T 1 0)) st (nI m) p0 ho sk dy pl th x1 K := by
  obtain ⟨t1, t2, t3, t4, t5, t6, t7, t8, t9⟩ := id hT
  unfold pX8_laws
  refine s_hasSkin (by omega) (fun hx => ⟨fun _ => ?_, fun q => absurd q (by decide)⟩) (fun hx => ⟨fun q => absurd rfl q, fun _ => k0 hx⟩)
  obtain ⟨i, hi, rfl⟩ := hx
  refine it3_rule (fun x y _ => ∃ p, p ≤ 4 ∧ y = nI p ∧ x = fo (btS (fun kd => agN T m E i (h 1 i) kd)) p 0) (fun _ y _ => 5 - y.toNatClampNeg) ?_ _ _ _ ⟨0, by omega, rfl, rfl⟩
  rintro rec x y g ⟨p, hp, rfl, rfl⟩ hrec
  unfold pX8_laws_B17
  rw [show (4 : Int32) = nI 4 from rfl, nI_leI (by omega) (by omega)]
  refine br_c (fun c => ?_) (fun c => ⟨vp_in_nI (by omega) (by omega), ?_⟩)
  · have e : p = 4 := by omega
    subst e; exact k i g hi rfl
  rw [nI_clamp (by omega), hst i hi]
  refine s_agree hT hw hE hs hi (hh.2.1 i hi) (by omega) (fun g => ?_)
  have hb := fo_s (btS (fun kd => agN T m E i (h 1 i) kd)) p 0
  by_cases c2 : agN T m E i (h 1 i) p = true
  · rw [if_pos c2]
    refine ⟨fun q => absurd q (by decide), fun _ => ?_⟩
    rw [nI_1]
    exact hrec _ _ _ ⟨p + 1, by omega, rfl, by rw [hb, btS, if_pos c2]⟩ (by rw [nI_clamp (by omega), nI_clamp (by omega)]; omega)
  · rw [if_neg c2]
    refine ⟨fun _ => ?_, fun q => absurd rfl q⟩
    rw [nI_1]
    exact hrec _ _ _ ⟨p + 1, by omega, rfl, by rw [hb, btS, if_neg c2]⟩ (by rw [nI_clamp (by omega), nI_clamp (by omega)]; omega)
/-! ===== the greatest common divisor ===== -/
theorem gcd_step {l s e : Nat} (hs : 0 < s) (h : s ≤ l) (hp : l * s < 2 ^ e) : ∃ f, f + 1 = e ∧ s * (l % s) < 2 ^ f := by
  have h1 : 1 ≤ l * s := Nat.mul_pos (by omega) hs
  cases e with
  | zero => omega
  | succ f =>
    refine ⟨f, rfl, ?_⟩
    have h2 : 2 * (l % s) ≤ l := by
      have h3 := Nat.div_add_mod l s
      have h4 := Nat.mod_lt l hs
      have h5 : 1 ≤ l / s := Nat.div_pos h hs
      have h6 : s * 1 ≤ s * (l / s) := Nat.mul_le_mul_left s h5
      omega
    have h7 : s * (2 * (l % s)) ≤ s * l := Nat.mul_le_mul_left s h2
    have h8 : s * (2 * (l % s)) = 2 * (s * (l % s)) := by rw [← Nat.mul_assoc, Nat.mul_comm s 2, Nat.mul_assoc]
    rw [Nat.mul_comm l s] at hp
    rw [Nat.pow_succ] at hp
    omega
theorem s_commonDivisor {a b : Nat} {K : Int32 → Prop} (ha : a < 2 ^ 15) (hb : b < 2 ^ 15) (h : K (nI (Nat.gcd a b))) : pX8_commonDivisor (nI a) (nI b) K := by
  unfold pX8_commonDivisor
  refine it3_rule (fun x y z => ∃ l s q, x = nI l ∧ y = nI s ∧ z = nI q ∧ q ≤ 64 ∧ l < 2 ^ 15 ∧ s < 2 ^ 15 ∧ Nat.gcd l s = Nat.gcd a b ∧ (q = 0 ∨ (s ≤ l ∧ ∃ e, e + q ≤ 40 ∧ l * s < 2 ^ e))) (fun _ _ z => 65 - z.toNatClampNeg) ?_ _ _ _ ⟨a, b, 0, rfl, rfl, rfl, by omega, ha, hb, rfl, Or.inl rfl⟩
  rintro rec x y z ⟨l, s, q, rfl, rfl, rfl, hq, hl, hs, hg, hc⟩ hrec
  unfold pX8_commonDivisor_B7
  rw [show (64 : Int32) = nI 64 from rfl, nI_leI (by omega) (by omega), show (0 : Int32) = nI 0 from rfl, nI_eq (by omega) (by omega)]
  refine br_c (fun c => ?_) (fun c => ⟨fun c2 => ?_, fun c2 => ⟨c2, ?_⟩⟩)
  · rcases hc with e | ⟨h1, e, h2, h3⟩
    · omega
    · omega
  · subst c2
    rw [Nat.gcd_zero_right] at hg
    rw [hg]; exact h
  · have h0 : 0 < s := by omega
    have hm := Nat.mod_lt l h0
    rw [pk_rem (by omega) h0 (by omega), nI_1]
    refine hrec _ _ _ ⟨s, l % s, q + 1, rfl, rfl, rfl, by omega, by omega, by omega, ?_, Or.inr ⟨by omega, ?_⟩⟩ (by rw [nI_clamp (by omega), nI_clamp (by omega)]; omega)
    · rw [← hg, Nat.gcd_comm s, ← Nat.gcd_rec, Nat.gcd_comm]
    · rcases hc with e | ⟨h1, e, h2, h3⟩
      · refine ⟨30, by omega, ?_⟩
        have h4 : s * (l % s) ≤ 32767 * 32767 := Nat.mul_le_mul (by omega) (by omega)
        omega
      · obtain ⟨f, hf, h4⟩ := gcd_step h0 h1 h3
        exact ⟨f, by omega, h4⟩
