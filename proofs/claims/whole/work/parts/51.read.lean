theorem fg_ok {tx : Nat → Nat} {n w a : Nat} : ∀ k a2 V, fo (fgF tx n w) k (some (a, fun _ => 0)) = some (a2, V) → a + k ≤ a2 ∧ (1 ≤ k → a2 ≤ n) ∧ ∀ j, V j < 100
  | 0, a2, V, h => by cases h; exact ⟨by omega, fun q => by omega, fun _ => by show 0 < 100; omega⟩
  | k + 1, a2, V, h => by
    rw [fo_s, fgF] at h
    cases h2 : fo (fgF tx n w) k (some (a, fun _ => 0)) with
    | none => rw [h2] at h; cases h
    | some p =>
      rw [h2] at h
      have h : ((nbS tx n p.1 (if k + 1 < w then 44 else 59)).bind fun q => some (q.2, upN p.2 k q.1)) = some (a2, V) := h
      cases h3 : nbS tx n p.1 (if k + 1 < w then 44 else 59) with
      | none => rw [h3] at h; cases h
      | some q =>
        rw [h3] at h
        have h : some (q.2, upN p.2 k q.1) = some (a2, V) := h
        cases h
        obtain ⟨i1, i2, i3⟩ := fg_ok k p.1 p.2 h2
        obtain ⟨l1, l2, l3⟩ := nb_lt (v := q.1) (a2 := q.2) h3
        refine ⟨by omega, fun _ => l2, fun j => ?_⟩
        unfold upN
        split
        · exact l3
        · exact i3 j
theorem fg_none {tx : Nat → Nat} {n w k : Nat} {s : Option (Nat × (Nat → Nat))} (h : fo (fgF tx n w) k s = none) : ∀ j, fo (fgF tx n w) (k + j) s = none
  | 0 => h
  | j + 1 => by
    show fgF tx n w (k + j) (fo (fgF tx n w) (k + j) s) = none
    rw [fg_none h j]; rfl
theorem wd_le (b : Nat) : wdN b ≤ 3 := by unfold wdN; repeat (first | omega | split)
theorem s_numbersBehind {b : Nat} {K : Int32 → Prop} (hb : b < 256) (h : K (nI (wdN b))) : pX3_numbersBehind (nI b) K := by
  have kb : ∀ c : Nat, c < 256 → (nI b = nI c ↔ b = c) := fun c hc => nI_eq (by omega) (by omega)
  unfold pX3_numbersBehind
  refine ⟨fun c => ?_, fun c => ?_, fun c => ?_, fun c => ?_, fun c => ?_, fun c1 c2 c3 c4 c5 => ?_⟩
  · have e := (kb 108 (by omega)).mp c; subst e; exact h
  · have e := (kb 112 (by omega)).mp c; subst e; exact h
  · have e := (kb 115 (by omega)).mp c; subst e; exact h
  · have e := (kb 116 (by omega)).mp c; subst e; exact h
  · have e := (kb 119 (by omega)).mp c; subst e; exact h
  · have n1 : b ≠ 108 := fun e => c1 (by rw [e]; rfl)
    have n2 : b ≠ 112 := fun e => c2 (by rw [e]; rfl)
    have n3 : b ≠ 115 := fun e => c3 (by rw [e]; rfl)
    have n4 : b ≠ 116 := fun e => c4 (by rw [e]; rfl)
    have n5 : b ≠ 119 := fun e => c5 (by rw [e]; rfl)
    unfold wdN at h
    rw [if_neg n1, if_neg n2, if_neg n3, if_neg n4, if_neg n5] at h
    exact h
/-- the loop over an item's numbers -/
theorem s_items {tx : Nat → Nat} {n a w : Nat} {f num : Nat → Int32} {K : Int32 → (Nat → Int32) → Prop} (hn : n ≤ 300) (ha : a < 300) (ht : ∀ k, tx k < 256) (hf : cby tx n f) (hw : w ≤ 3) (hw1 : 1 ≤ w)
    (h0 : fgN tx n w (a + 1) = none → ∀ num, K nm4 num) (h1 : ∀ a2 V num, fgN tx n w (a + 1) = some (a2, V) → (∀ j, j < w → num j = nI (V j)) → K (nI a2) num) : ∃ n_, it3 (pX3_readItem_B36 (nI w) (nI n) f K) n_ (nI (a + 1)) 0 num := by
  unfold fgN at h0 h1
  refine it3_rule (fun x y num => ∃ k, k ≤ w ∧ y = nI k ∧ ((fo (fgF tx n w) k (some (a + 1, fun _ => 0)) = none ∧ x = nm4) ∨ ∃ a2 V, fo (fgF tx n w) k (some (a + 1, fun _ => 0)) = some (a2, V) ∧ x = nI a2 ∧ ∀ j, j < k → num j = nI (V j))) (fun _ y _ => w + 1 - y.toNatClampNeg) ?_ _ _ _ ⟨0, by omega, rfl, Or.inr ⟨a + 1, _, rfl, rfl, fun j hj => by omega⟩⟩
  rintro rec x y num ⟨k, hk, rfl, hc⟩ hrec
  unfold pX3_readItem_B36
  rw [nI_leI (by omega) (by omega), nI_1, nI_leI (by omega) (by omega)]
  rcases hc with ⟨e, rfl⟩ | ⟨a2, V, e, rfl, hV⟩
  · have hall : fo (fgF tx n w) w (some (a + 1, fun _ => 0)) = none := by
      have := fg_none e (w - k)
      rw [show k + (w - k) = w by omega] at this
      exact this
    exact ⟨fun _ => h0 hall _, fun _ => ⟨fun _ => h0 hall _, fun q => absurd nm4_neg q⟩⟩
  · obtain ⟨i1, i2, i3⟩ := fg_ok k a2 V e
    have ha2 : a2 ≤ 300 := by
      by_cases c : 1 ≤ k
      · have := i2 c; omega
      · have : k = 0 := by omega
        subst this
        cases e; omega
    refine br_c (fun c => ?_) (fun c => ⟨fun q => absurd q (nI_pos (by omega)), fun _ => ?_⟩)
    · have e2 : k = w := by omega
      subst e2
      exact h1 a2 V num e hV
    · have step : ∀ en : Nat, en = (if k + 1 < w then 44 else 59) → pX3_readNumber (nI n) f num (nI a2) (nI k) (nI en) fun r o => rec r (nI (k + 1)) o := by
        intro en hen
        have hs : fo (fgF tx n w) (k + 1) (some (a + 1, fun _ => 0)) = (nbS tx n a2 en).bind fun q => some (q.2, upN V k q.1) := by rw [fo_s, e, hen]; rfl
        refine s_readNumber hn ha2 ht hf (by omega) (fun z => ?_) (fun v a3 z => ?_) (by rw [hen]; split <;> omega)
        · exact hrec _ _ _ ⟨k + 1, by omega, rfl, Or.inl ⟨by rw [hs, z]; rfl, rfl⟩⟩ (by rw [nI_clamp (by omega), nI_clamp (by omega)]; omega)
        · refine hrec _ _ _ ⟨k + 1, by omega, rfl, Or.inr ⟨a3, upN V k v, by rw [hs, z]; rfl, rfl, fun j hj => ?_⟩⟩ (by rw [nI_clamp (by omega), nI_clamp (by omega)]; omega)
          by_cases e3 : j = k
          · rw [e3, pk_us, upN_s]
          · rw [pk_un e3, upN_n e3]; exact hV j (by omega)
      exact ⟨fun c2 => step 59 (by rw [if_neg (by omega)]), fun c2 => step 44 (by rw [if_pos (by omega)])⟩
theorem s_readItem {tx : Nat → Nat} {n a : Nat} {D : DD} {f num : Nat → Int32} {pl sk sm ti lk : Int32} {lo lp ld ho vi st gi ki : Nat → Int32} {K : Int32 → (Nat → Int32) → Int32 → Int32 → Int32 → Int32 → Int32 → (Nat → Int32) → (Nat → Int32) → (Nat → Int32) → (Nat → Int32) → (Nat → Int32) → (Nat → Int32) → (Nat → Int32) → (Nat → Int32) → Prop}
    (hn : n ≤ 300) (ha : a < n) (ht : ∀ k, tx k < 256) (hf : cby tx n f) (hD : dok D) (hr : cdr D pl sk sm ti lk lo lp ld ho vi st gi ki)
    (h1 : ∀ a2 E num pl sk sm ti lk lo lp ld ho vi st gi ki, itN tx n a D = some (a2, E) → cdr E pl sk sm ti lk lo lp ld ho vi st gi ki → K (nI a2) num pl sk sm ti lk lo lp ld ho vi st gi ki)
    (h0 : itN tx n a D = none → ∀ num pl sk sm ti lk lo lp ld ho vi st gi ki, K nm4 num pl sk sm ti lk lo lp ld ho vi st gi ki) : pX3_readItem (nI n) f num pl sk sm ti lk lo lp ld ho vi st gi ki (nI a) K := by
  unfold pX3_readItem
  rw [nI_clamp (by omega), hf a ha, sb_ch (tx a) (ht a)]
  refine ⟨vp_in_nI (by omega) (by omega), s_numbersBehind (ht a) ?_⟩
  have hw := wd_le (tx a)
  unfold itN at h1 h0
  rw [show (0 : Int32) = nI 0 from rfl, nI_leI (by omega) (by omega), nm4_rfl]
  refine br_c (fun c => ?_) (fun c => ?_)
  · have hw0 : wdN (tx a) = 0 := by omega
    rw [if_pos hw0] at h0
    refine it3_rule (fun x y _ => x = nm4) (fun _ _ _ => 0) ?_ _ _ _ rfl
    rintro rec x y num rfl hrec
    unfold pX3_readItem_B36
    have hK : ∀ num, (nm4 < nI 0 → K nm4 num pl sk sm ti lk lo lp ld ho vi st gi ki) := fun num _ => h0 rfl _ _ _ _ _ _ _ _ _ _ _ _ _ _
    exact ⟨fun _ => ⟨hK num, fun q => absurd nm4_neg q⟩, fun _ => ⟨fun _ => ⟨hK num, fun q => absurd nm4_neg q⟩, fun q => absurd nm4_neg q⟩⟩
  · have hw0 : ¬ wdN (tx a) = 0 := by omega
    rw [if_neg hw0] at h0
    simp only [if_neg hw0] at h1
    rw [nI_1]
    refine s_items hn (by omega) ht hf hw (by omega) (fun z num => ?_) (fun a2 V num z hV => ?_)
    · rw [z] at h0
      exact ⟨fun _ => h0 rfl _ _ _ _ _ _ _ _ _ _ _ _ _ _, fun q => absurd nm4_neg q⟩
    · rw [z] at h0
      simp only [z] at h1
      obtain ⟨i1, i2, i3⟩ := fg_ok _ a2 V z
      refine ⟨fun q => absurd q (nI_pos (by omega)), fun _ => ?_⟩
      rw [show (nI 0).toNatClampNeg = 0 from rfl, show (1 : Int32).toNatClampNeg = 1 from rfl, show (2 : Int32).toNatClampNeg = 2 from rfl]
      refine s_accept (D := D) (x := V 0) (y := V 1) (z := V 2) (ht a) hD hr (fun q => hV 0 (by omega)) (fun q => hV 1 (by omega)) (fun q => hV 2 (by omega)) (i3 0) (i3 1) (i3 2) (fun E pl sk sm ti lk lo lp ld ho vi st gi ki e hE => ⟨fun q => absurd q (by decide), fun _ => ?_⟩) (fun e pl sk sm ti lk lo lp ld ho vi st gi ki => ⟨fun _ => ?_, fun q => absurd rfl q⟩)
      · exact h1 a2 E _ _ _ _ _ _ _ _ _ _ _ _ _ _ (by show (accN D (tx a) (V 0) (V 1) (V 2)).bind _ = _; rw [e]; rfl) hE
      · exact h0 (by show (accN D (tx a) (V 0) (V 1) (V 2)).bind _ = _; rw [e]; rfl) _ _ _ _ _ _ _ _ _ _ _ _ _ _
theorem it_ok {tx : Nat → Nat} {n a a2 : Nat} {D E : DD} (hD : dok D) (h : itN tx n a D = some (a2, E)) : a < a2 ∧ a2 ≤ n ∧ dok E := by
  unfold itN at h
  split at h
  · cases h
  · rename_i hw
    cases h2 : fgN tx n (wdN (tx a)) (a + 1) with
    | none => rw [h2] at h; cases h
    | some p =>
      rw [h2] at h
      have h : ((accN D (tx a) (p.2 0) (p.2 1) (p.2 2)).bind fun E => some (p.1, E)) = some (a2, E) := h
      cases h3 : accN D (tx a) (p.2 0) (p.2 1) (p.2 2) with
      | none => rw [h3] at h; cases h
      | some F =>
        rw [h3] at h
        have h : some (p.1, F) = some (a2, E) := h
        cases h
        obtain ⟨i1, i2, i3⟩ := fg_ok _ p.1 p.2 h2
        exact ⟨by omega, i2 (by omega), acc_dok hD h3⟩
/-- the text read into a town: where it fails, and the town -/
def rdN (tx : Nat → Nat) (n : Nat) : Nat → Nat → DD → Option Nat × DD
  | 0, a, D => (some a, D)
  | f + 1, a, D => if a < n then (match itN tx n a D with | none => (some a, D) | some p => rdN tx n f p.1 p.2) else (none, D)
def dd0 : DD := (fun f k => if f = 3 ∧ k = 0 then 1 else 0, fun _ _ => 0)
theorem dok_0 : dok dd0 := ⟨by decide, by decide, by decide, by decide, by decide, by decide, fun k hk => absurd hk (by show ¬ k < 0; omega), fun k hk => absurd hk (by show ¬ k < 0; omega), fun k hk => absurd hk (by show ¬ k < 0; omega)⟩
def rdT (tx : Nat → Nat) (n : Nat) : Option Nat × DD := rdN tx n 301 0 dd0
theorem rd_dok {tx : Nat → Nat} {n : Nat} : ∀ f a D, dok D → dok (rdN tx n f a D).2
  | 0, a, D, h => h
  | f + 1, a, D, h => by
    rw [rdN]
    split
    · cases h2 : itN tx n a D with
      | none => exact h
      | some p => exact rd_dok f p.1 p.2 (it_ok h h2).2.2
    · exact h
theorem rd_lt {tx : Nat → Nat} {n q : Nat} : ∀ f a D, dok D → n - a < f → (rdN tx n f a D).1 = some q → a ≤ q ∧ q < n
  | 0, a, D, _, h, _ => by omega
  | f + 1, a, D, hD, h, e => by
    rw [rdN] at e
    split at e
    · cases h2 : itN tx n a D with
      | none => rw [h2] at e; cases e; omega
      | some p =>
        rw [h2] at e
        obtain ⟨g1, g2, g3⟩ := it_ok hD h2
        have := rd_lt f p.1 p.2 g3 (by omega) e
        omega
    · cases e
theorem s_readInto {tx : Nat → Nat} {n : Nat} {f num lo lp ld ho vi st gi ki : Nat → Int32} {K : Int32 → Int32 → Int32 → Int32 → Int32 → Int32 → (Nat → Int32) → (Nat → Int32) → (Nat → Int32) → (Nat → Int32) → (Nat → Int32) → (Nat → Int32) → (Nat → Int32) → (Nat → Int32) → (Nat → Int32) → Prop}
    (hn : n ≤ 300) (ht : ∀ k, tx k < 256) (hf : cby tx n f)
    (h1 : (rdT tx n).1 = none → ∀ num pl sk sm ti lk lo lp ld ho vi st gi ki, cdr (rdT tx n).2 pl sk sm ti lk lo lp ld ho vi st gi ki → K nm4 pl sk sm ti lk num lo lp ld ho vi st gi ki)
    (h0 : ∀ a, (rdT tx n).1 = some a → ∀ num pl sk sm ti lk lo lp ld ho vi st gi ki, K (nI a) pl sk sm ti lk num lo lp ld ho vi st gi ki) : pX3_readInto (nI n) f num lo lp ld ho vi st gi ki K := by
  unfold pX3_readInto pX7_empty
  unfold rdT at h1 h0
  refine it15_rule (fun x pl sk sm ti lk num lo lp ld ho vi st gi ki => ∃ a D fl, a ≤ n ∧ x = nI a ∧ n - a < fl ∧ rdN tx n fl a D = rdN tx n 301 0 dd0 ∧ dok D ∧ cdr D pl sk sm ti lk lo lp ld ho vi st gi ki) (fun x _ _ _ _ _ _ _ _ _ _ _ _ _ _ => n + 1 - x.toNatClampNeg) ?_ _ _ _ _ _ _ _ _ _ _ _ _ _ _ _ ⟨0, dd0, 301, by omega, rfl, by omega, rfl, dok_0, rfl, rfl, rfl, rfl, rfl, fun k hk => absurd hk (by show ¬ k < 0; omega), fun k hk => absurd hk (by show ¬ k < 0; omega), fun k hk => absurd hk (by show ¬ k < 0; omega)⟩
  rintro rec x pl sk sm ti lk num lo lp ld ho vi st gi ki ⟨a, D, fl, ha, rfl, hfl, hrd, hD, hc⟩ hrec
  unfold pX3_readInto_B6
  obtain ⟨g, rfl⟩ : ∃ g, fl = g + 1 := ⟨fl - 1, by omega⟩
  rw [rdN] at hrd
  rw [nI_leI (by omega) (by omega)]
  refine br_c (fun c => ?_) (fun c => ?_)
  · rw [if_neg (by omega)] at hrd
    rw [← hrd] at h1
    exact h1 rfl _ _ _ _ _ _ _ _ _ _ _ _ _ _ hc
  · rw [if_pos (by omega)] at hrd
    refine s_readItem hn (by omega) ht hf hD hc (fun a2 E num pl sk sm ti lk lo lp ld ho vi st gi ki e hE => ?_) (fun e num pl sk sm ti lk lo lp ld ho vi st gi ki => ?_)
    · obtain ⟨g1, g2, g3⟩ := it_ok hD e
      rw [e] at hrd
      rw [nI_ltI (by omega) (by omega)]
      refine ⟨fun _ => ?_, fun q => absurd g1 q⟩
      exact hrec _ _ _ _ _ _ _ _ _ _ _ _ _ _ _ ⟨a2, E, g, g2, rfl, by omega, hrd, g3, hE⟩ (by rw [nI_clamp (by omega), nI_clamp (by omega)]; omega)
    · rw [e] at hrd
      rw [← hrd] at h0
      refine ⟨fun q => ?_, fun _ => h0 a rfl _ _ _ _ _ _ _ _ _ _ _ _ _ _⟩
      have h2 := nm4_neg
      have h3 := nI_pos' (n := a) (by omega)
      rw [Int32.lt_iff_toInt_lt] at q h2
      rw [Int32.le_iff_toInt_le] at h3
      omega
/-- all places of it there are -/
def cblN (D : DD) : Bool := decide (0 < D.1 0 0) && (decide (0 < D.1 1 0) && (fo (fun i b => b && decide (D.2 1 i < D.1 0 0)) (D.1 1 0) true && fo (fun k b => b && decide (D.2 3 k < D.1 0 0)) (D.2 0 0) true))
theorem all_stop {p : Nat → Bool} {k : Nat} (h : fo (fun i b => b && p i) k true = false) : ∀ n, fo (fun i b => b && p i) (k + n) true = false
  | 0 => h
  | n + 1 => by
    show (fo (fun i b => b && p i) (k + n) true && p (k + n)) = false
    rw [all_stop h n]; rfl
theorem all_yes {p : Nat → Bool} : ∀ n, fo (fun i b => b && p i) n true = true → ∀ i, i < n → p i = true
  | 0, _, i, h => by omega
  | n + 1, h, i, hi => by
    have h : (fo (fun i b => b && p i) n true && p n) = true := h
    simp only [Bool.and_eq_true] at h
    by_cases e : i = n
    · rw [e]; exact h.2
    · exact all_yes n h.1 i (by omega)
theorem s_canBeLaid {D : DD} {st lp : Nat → Int32} {K : Int32 → Prop} (hD : dok D) (hs : ∀ i, i < D.1 1 0 → st i = nI (D.2 1 i)) (hl : ∀ k, k < D.2 0 0 → lp k = nI (D.2 3 k)) (h : K (if cblN D = true then 1 else 0)) : pX7_canBeLaid (nI (D.1 0 0)) (nI (D.1 1 0)) (nI (D.2 0 0)) st lp K := by
  obtain ⟨d1, d2, d3, d4, d5, d6, d7, d8, d9⟩ := hD
  unfold pX7_canBeLaid
  unfold cblN at h
  refine it1_rule (fun x => ∃ i, i ≤ D.1 1 0 ∧ x = nI i ∧ fo (fun i b => b && decide (D.2 1 i < D.1 0 0)) i true = true) (fun x => D.1 1 0 + 1 - x.toNatClampNeg) ?_ _ ⟨0, by omega, rfl, rfl⟩
  rintro rec x ⟨i, hi, rfl, hb⟩ hrec
  unfold pX7_canBeLaid_B2
  rw [nI_leI (by omega) (by omega)]
  refine br_c (fun c => ?_) (fun c => ⟨vp_in_nI (by omega) (by omega), ?_⟩)
  · have e : i = D.1 1 0 := by omega
    subst e
    rw [hb] at h
    refine it1_rule (fun x => ∃ i, i ≤ D.2 0 0 ∧ x = nI i ∧ fo (fun k b => b && decide (D.2 3 k < D.1 0 0)) i true = true) (fun x => D.2 0 0 + 1 - x.toNatClampNeg) ?_ _ ⟨0, by omega, rfl, rfl⟩
    rintro rec x ⟨k, hk, rfl, hb2⟩ hrec
    unfold pX7_canBeLaid_B36
    rw [nI_leI (by omega) (by omega)]
    refine br_c (fun c2 => ?_) (fun c2 => ⟨vp_in_nI (by omega) (by omega), ?_⟩)
    · have e : k = D.2 0 0 := by omega
      subst e
      rw [hb2] at h
      rw [show (0 : Int32) = nI 0 from rfl, nI_leI (by omega) (by omega), nI_leI (by omega) (by omega)]
      refine br_c (fun c3 => ?_) (fun c3 => br_c (fun c4 => ?_) (fun c4 => ?_))
      · rw [if_neg (by have : ¬ 0 < D.1 0 0 := by omega
                       simp [this])] at h; exact h
      · rw [if_neg (by have : ¬ 0 < D.1 1 0 := by omega
                       simp [this])] at h; exact h
      · rw [if_pos (by have h1 : 0 < D.1 0 0 := by omega
                       have h2 : 0 < D.1 1 0 := by omega
                       simp [h1, h2])] at h; exact h
    · rw [nI_clamp (by omega), hl k (by omega)]
      refine s_hasPlace (by omega) (fun hp => ⟨fun _ => ?_, fun q => absurd q (by decide)⟩) (fun hp => ⟨fun q => absurd rfl q, fun _ => ?_⟩)
      · obtain ⟨a, ha, e⟩ := hp
        have e := (nI_eq (by have := d9 k (by omega); omega) (by omega)).mp e
        rw [nI_1]
        refine hrec _ ⟨k + 1, by omega, rfl, ?_⟩ (by rw [nI_clamp (by omega), nI_clamp (by omega)]; omega)
        rw [fo_s, hb2]
        simp; omega
      · have hf : fo (fun k b => b && decide (D.2 3 k < D.1 0 0)) (k + 1) true = false := by
          rw [fo_s, hb2]
          simp
          exact Nat.not_lt.mp (fun q => hp ⟨_, q, rfl⟩)
        have := all_stop hf (D.2 0 0 - (k + 1))
        rw [show k + 1 + (D.2 0 0 - (k + 1)) = D.2 0 0 by omega] at this
        rw [this] at h
        simp at h; exact h
  · rw [nI_clamp (by omega), hs i (by omega)]
    refine s_hasPlace (by omega) (fun hp => ⟨fun _ => ?_, fun q => absurd q (by decide)⟩) (fun hp => ⟨fun q => absurd rfl q, fun _ => ?_⟩)
    · obtain ⟨a, ha, e⟩ := hp
      have e := (nI_eq (by have := d8 i (by omega); omega) (by omega)).mp e
      rw [nI_1]
      refine hrec _ ⟨i + 1, by omega, rfl, ?_⟩ (by rw [nI_clamp (by omega), nI_clamp (by omega)]; omega)
      rw [fo_s, hb]
      simp; omega
    · have hf : fo (fun i b => b && decide (D.2 1 i < D.1 0 0)) (i + 1) true = false := by
        rw [fo_s, hb]
        simp
        exact Nat.not_lt.mp (fun q => hp ⟨_, q, rfl⟩)
      have := all_stop hf (D.1 1 0 - (i + 1))
      rw [show i + 1 + (D.1 1 0 - (i + 1)) = D.1 1 0 by omega] at this
      rw [this] at h
      simp at h; exact h
theorem cbl_ok {D : DD} (hD : dok D) (h : cblN D = true) : tok D.1 ∧ hok D.1 D.2 := by
  obtain ⟨d1, d2, d3, d4, d5, d6, d7, d8, d9⟩ := hD
  unfold cblN at h
  simp only [Bool.and_eq_true, decide_eq_true_eq] at h
  obtain ⟨h1, h2, h3, h4⟩ := h
  have h3 := all_yes _ h3
  have h4 := all_yes _ h4
  refine ⟨⟨by omega, d1, by omega, d2, d4, d5, d6, d7, fun i hi => by have := d8 i hi; omega⟩, d3, fun i hi => by simpa using h3 i hi, fun k hk => ?_⟩
  have g1 := d9 k hk
  have g2 : D.2 3 k < D.1 0 0 := by simpa using h4 k hk
  omega
