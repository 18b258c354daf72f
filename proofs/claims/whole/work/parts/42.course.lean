theorem nm4_rfl : (-4 : Int32) = nm4 := rfl
theorem upd_c {f g : Nat → Int32} {i k : Nat} {x : Int32} (h : f k = g k) : upd f i x k = upd g i x k := by
  unfold upd
  split
  · rfl
  · exact h
/-! ===== sizes ===== -/
def gN (w g d : Nat) : Nat := if w = 0 then max 1 g else max 1 (g - d / w)
def suN (w gw gi d : Nat) : Bool := decide (gN w gi d ≤ gw + 2) && decide (gw ≤ gN w gi d + 2)
theorem gN_le {w g d : Nat} (h : 1 ≤ g) : 1 ≤ gN w g d ∧ gN w g d ≤ g := by
  unfold gN
  have := Nat.sub_le g (d / w)
  split <;> omega
theorem s_girthOn {w g d i : Nat} {f : Nat → Int32} {K : Int32 → Prop} (hw : w ≤ 60) (hi : i < 5) (hf : f i = nI g) (hg : 1 ≤ g) (hg2 : g ≤ 20) (hd : d ≤ 100) (h : K (nI (gN w g d))) : pX7_girthOn (nI w) f (nI i) (nI d) K := by
  unfold pX7_girthOn
  rw [nI_clamp (by omega), hf, show (1 : Int32) = nI 1 from rfl, nI_leI (by omega) (by omega)]
  unfold gN at h
  refine br_c (fun c => ⟨vp_in_nI (by omega) (by omega), ?_, ?_⟩) (fun c => ⟨vp_in_nI (by omega) (by omega), ?_⟩)
  · intro e; rw [show (0 : Int32) = nI 0 from rfl, nI_eq (by omega) (by omega)] at e; omega
  · rw [if_neg (by omega)] at h
    rw [pk_div (by omega) (by omega) (by omega)]
    have hqb : d / w ≤ 100 := Nat.le_trans (Nat.div_le_self d w) hd
    generalize d / w = q at *
    by_cases hq : q ≤ g
    · rw [pk_sub hq, nI_leI (by omega) (by omega)]
      refine br_c (fun c2 => ?_) (fun c2 => ?_)
      · rw [show max 1 (g - q) = g - q by omega] at h; exact h
      · rw [show max 1 (g - q) = 1 by omega] at h; exact h
    · have hlt : nI g - nI q < 0 := pk_sneg (by omega) (by omega)
      refine br_c (fun c2 => ?_) (fun c2 => ?_)
      · exfalso
        rw [Int32.le_iff_toInt_le] at c2
        rw [Int32.lt_iff_toInt_lt] at hlt
        have h1 : (nI 1).toInt = 1 := by decide
        have h0 : (0 : Int32).toInt = 0 := by decide
        omega
      · rw [show max 1 (g - q) = 1 by omega] at h; exact h
  · rw [if_pos (by omega)] at h
    rw [nI_leI (by omega) (by omega)]
    refine br_c (fun c2 => ?_) (fun c2 => ?_)
    · rw [show max 1 g = g by omega] at h; exact h
    · rw [show max 1 g = 1 by omega] at h; exact h
theorem absd {a b : Nat} (ha : a < 2 ^ 30) (hb : b < 2 ^ 30) : (if (0 : Int32) ≤ nI a - nI b then nI a - nI b else 0 - (nI a - nI b)) = nI (if b ≤ a then a - b else b - a) := by
  by_cases h : b ≤ a
  · rw [if_pos h, pk_sub h, if_pos (nI_pos' (by omega))]
  · rw [if_neg h]
    have hlt := pk_sneg hb (show a < b by omega)
    rw [if_neg, Int32.zero_sub, Int32.neg_sub, pk_sub (by omega)]
    intro c
    rw [Int32.le_iff_toInt_le] at c
    rw [Int32.lt_iff_toInt_lt] at hlt
    omega
theorem s_suits {w gw gi d i k : Nat} {f : Nat → Int32} {K : Int32 → Prop} (hw : w ≤ 60) (hi : i < 5) (hk : k < 5) (hf : f k = nI gi) (hf2 : f i = nI gw) (hg : 1 ≤ gi) (hg2 : gi ≤ 20) (hg3 : gw ≤ 20) (hd : d ≤ 100) (h : K (if suN w gw gi d = true then 1 else 0)) : pX7_suits (nI w) f (nI i) (nI k) (nI d) K := by
  unfold pX7_suits
  refine s_girthOn hw hk hf hg hg2 hd ⟨vp_in_nI (by omega) (by omega), ?_⟩
  have hb := gN_le (w := w) (d := d) hg
  rw [nI_clamp (by omega), hf2, absd (by omega) (by omega)]
  intro y hy
  subst hy
  unfold suN at h
  rw [show (2 : Int32) = nI 2 from rfl, nI_ltI (by omega) (by split <;> omega)]
  refine br_c (fun c => ?_) (fun c => ?_)
  · rw [if_neg] at h
    · exact h
    · simp only [Bool.and_eq_true, decide_eq_true_eq]
      split at c <;> omega
  · rw [if_pos] at h
    · exact h
    · simp only [Bool.and_eq_true, decide_eq_true_eq]
      split at c <;> omega
def tdN (t d : Nat) : Nat := if d % t = 0 then d else d + t - d % t
theorem tdN_ge {t d : Nat} (ht : 1 ≤ t) : d ≤ tdN t d ∧ tdN t d < d + t := by
  unfold tdN
  have := Nat.mod_lt d (show 0 < t by omega)
  split <;> omega
theorem s_tideFrom {t d : Nat} {K : Int32 → Prop} (ht : 1 ≤ t) (ht2 : t ≤ 20) (hd : d ≤ 100) (h : K (nI (tdN t d))) : pX7_tideFrom (nI t) (nI d) K := by
  unfold pX7_tideFrom
  rw [show (1 : Int32) = nI 1 from rfl, nI_leI (by omega) (by omega), pk_rem (by omega) (by omega) (by omega)]
  unfold tdN at h
  have := Nat.mod_lt d (show 0 < t by omega)
  refine br_t (by omega) ⟨?_, ?_⟩
  · intro e; rw [show (0 : Int32) = nI 0 from rfl, nI_eq (by omega) (by omega)] at e; omega
  · rw [show (0 : Int32) = nI 0 from rfl, nI_eq (by omega) (by omega), nI_add]
    refine ⟨fun c => ?_, fun c => ?_⟩
    · rw [if_neg c] at h; rw [pk_sub (by omega)]; exact h
    · rw [if_pos c] at h; exact h
/-! ===== the course of the days ===== -/
abbrev CS : Type := (Nat → Int32) × (Nat → Int32) × (Nat → Int32)
/-- T: 0 places, 1 skins, 2 smoke, 3 tide (at 0), 4 house, 5 view, 6 girth, 7 kind; h: 0 how many looks (at 0), 1 start, 2 looker, 3 place, 4 day -/
def psN (T h : Nat → Nat → Nat) (i d : Nat) : Nat := pos (T 0 0) (T 4) (T 7 i) (h 1 i) d
def lkS (T h : Nat → Nat → Nat) (day w p i : Nat) (s : CS) : CS :=
  if s.2.1 w < 0 ∧ s.1 i < 0 ∧ psN T h i day = p ∧ suN (T 2 0) (T 6 w) (T 6 i) day = true then (upd s.1 i (nI w), upd s.2.1 w (nI i), upd s.2.2 w (nI day)) else s
def lkA (T h : Nat → Nat → Nat) (day k : Nat) (s : CS) : CS := if h 4 k = day then fo (lkS T h day (h 2 k) (h 3 k)) (T 1 0) s else s
def dyA (T h : Nat → Nat → Nat) (d : Nat) (s : CS) : CS := fo (lkA T h (d + 1)) (h 0 0) s
def cs0 : CS := (fun _ => nm4, fun _ => nm4, fun _ => nm4)
def crs (T h : Nat → Nat → Nat) : CS := fo (dyA T h) 60 cs0
def csok (S : Nat) (s : CS) : Prop := ∀ k : Nat, (s.1 k = nm4 ∨ ∃ j, j < S ∧ s.1 k = nI j) ∧ (s.2.1 k = nm4 ∨ ∃ j, j < S ∧ s.2.1 k = nI j) ∧ (s.2.2 k = nm4 ∨ ∃ d, 1 ≤ d ∧ d ≤ 60 ∧ s.2.2 k = nI d) ∧ (s.2.1 k = nm4 ↔ s.2.2 k = nm4)
theorem csok_0 {S : Nat} : csok S cs0 := fun _ => ⟨Or.inl rfl, Or.inl rfl, Or.inl rfl, Iff.intro (fun _ => rfl) (fun _ => rfl)⟩
theorem neg_nm {S : Nat} {x : Int32} (hS : S ≤ 100) (h : x = nm4 ∨ ∃ j, j < S ∧ x = nI j) : x < 0 ↔ x = nm4 := by
  rcases h with rfl | ⟨j, hj, rfl⟩
  · exact ⟨fun _ => rfl, fun _ => nm4_neg⟩
  · exact ⟨fun q => absurd q (nI_pos (by omega)), fun q => absurd q (nI_ne4 (by omega))⟩
theorem csok_lkS {T h : Nat → Nat → Nat} {day w p i : Nat} {s : CS} (hs : csok (T 1 0) s) (hw : w < T 1 0) (hi : i < T 1 0) (hS : T 1 0 ≤ 100) (hd : 1 ≤ day) (hd2 : day ≤ 60) : csok (T 1 0) (lkS T h day w p i s) := by
  unfold lkS
  split
  · intro k
    obtain ⟨h1, h2, h3, h4⟩ := hs k
    dsimp only
    refine ⟨?_, ?_, ?_, ?_⟩
    · by_cases e : k = i
      · right; exact ⟨w, hw, by rw [e]; exact pk_us⟩
      · rw [pk_un e]; exact h1
    · by_cases e : k = w
      · right; exact ⟨i, hi, by rw [e]; exact pk_us⟩
      · rw [pk_un e]; exact h2
    · by_cases e : k = w
      · right; exact ⟨day, hd, hd2, by rw [e]; exact pk_us⟩
      · rw [pk_un e]; exact h3
    · by_cases e : k = w
      · rw [e, pk_us, pk_us]
        exact ⟨fun q => absurd q (nI_ne4 (by omega)), fun q => absurd q (nI_ne4 (by omega))⟩
      · rw [pk_un e, pk_un e]; exact h4
  · exact hs
theorem csok_fo {S : Nat} {f : Nat → CS → CS} {n : Nat} (hf : ∀ k s, k < n → csok S s → csok S (f k s)) : ∀ {s : CS}, csok S s → csok S (fo f n s) := by
  induction n with
  | zero => intro s hs; exact hs
  | succ n ih => intro s hs; exact hf n _ (by omega) (ih (fun k s hk => hf k s (by omega)) hs)
/-- what the looks must be -/
def hok (T h : Nat → Nat → Nat) : Prop := h 0 0 ≤ 9 ∧ (∀ i, i < T 1 0 → h 1 i < T 0 0) ∧ ∀ k, k < h 0 0 → h 2 k < T 1 0 ∧ h 3 k < T 0 0 ∧ 1 ≤ h 4 k ∧ h 4 k ≤ 60
def tok (T : Nat → Nat → Nat) : Prop := 1 ≤ T 0 0 ∧ T 0 0 ≤ 9 ∧ 1 ≤ T 1 0 ∧ T 1 0 ≤ 5 ∧ T 2 0 ≤ 60 ∧ 1 ≤ T 3 0 ∧ T 3 0 ≤ 20 ∧ (∀ k, k < T 0 0 → T 4 k ≤ 5 ∧ 1 ≤ T 5 k ∧ T 5 k ≤ 10) ∧ ∀ i, i < T 1 0 → 1 ≤ T 6 i ∧ T 6 i ≤ 20 ∧ T 7 i ≤ 3
theorem csok_lkA {T h : Nat → Nat → Nat} {day k : Nat} {s : CS} (hT : tok T) (hh : hok T h) (hd : 1 ≤ day) (hd2 : day ≤ 60) (hk : k < h 0 0) (hs : csok (T 1 0) s) : csok (T 1 0) (lkA T h day k s) := by
  unfold lkA
  split
  · refine csok_fo (fun i s hi hs => csok_lkS hs (hh.2.2 k hk).1 hi ?_ hd hd2) hs
    have := hT.2.2.2.1; omega
  · exact hs
theorem csok_dyA {T h : Nat → Nat → Nat} {d : Nat} {s : CS} (hT : tok T) (hh : hok T h) (hd2 : d < 60) (hs : csok (T 1 0) s) : csok (T 1 0) (dyA T h d s) := csok_fo (fun k s hk hs => csok_lkA hT hh (by omega) (by omega) hk hs) hs
theorem csok_crs {T h : Nat → Nat → Nat} (hT : tok T) (hh : hok T h) : csok (T 1 0) (crs T h) := csok_fo (fun d s hd hs => csok_dyA hT hh hd hs) csok_0
theorem lk_stop {T h : Nat → Nat → Nat} {day w p i : Nat} {s : CS} (hs : ¬ (fo (lkS T h day w p) i s).2.1 w < 0) : ∀ n, fo (lkS T h day w p) (i + n) s = fo (lkS T h day w p) i s
  | 0 => rfl
  | n + 1 => by
    show lkS T h day w p (i + n) (fo (lkS T h day w p) (i + n) s) = _
    rw [lk_stop hs n, lkS, if_neg (fun q => hs q.1)]
/-- the first five of three rows are those of the state -/
def eq5 (s : CS) (F H W : Nat → Int32) : Prop := ∀ k, k < 5 → F k = s.1 k ∧ H k = s.2.1 k ∧ W k = s.2.2 k
/-- Town's rows as the numbers say -/
def ctw (T : Nat → Nat → Nat) (ho gi ki : Nat → Int32) : Prop := (∀ k, k < T 0 0 → ho k = nI (T 4 k)) ∧ ∀ i, i < T 1 0 → gi i = nI (T 6 i) ∧ ki i = nI (T 7 i)
def chd (h : Nat → Nat → Nat) (lo lp ld : Nat → Int32) : Prop := ∀ k, k < h 0 0 → lo k = nI (h 2 k) ∧ lp k = nI (h 3 k) ∧ ld k = nI (h 4 k)
/-- the rows of the ways -/
def cpt (T h : Nat → Nat → Nat) (B : Nat → Nat → Int32) : Prop := ∀ i, i < T 1 0 → ∀ d, 1 ≤ d → d ≤ 60 → B i d = nI (psN T h i d)
theorem s_lookFor {T h : Nat → Nat → Nat} {day w p : Nat} {s : CS} {F H W gi : Nat → Int32} {B : Nat → Nat → Int32} {K : (Nat → Int32) → (Nat → Int32) → (Nat → Int32) → Prop} (hT : tok T) (hh : hok T h) (hw : w < T 1 0) (hp : p < T 0 0) (hd : 1 ≤ day) (hd2 : day ≤ 60) (hs : csok (T 1 0) s) (he : eq5 s F H W) (hg : ∀ i, i < T 1 0 → gi i = nI (T 6 i)) (hB : cpt T h B)
    (k : ∀ F H W, eq5 (fo (lkS T h day w p) (T 1 0) s) F H W → K H F W) : pX1_lookFor (nI (T 1 0)) (nI (T 2 0)) H F B gi W (nI w) (nI p) (nI day) K := by
  obtain ⟨t1, t2, t3, t4, t5, t6, t7, t8, t9⟩ := hT
  unfold pX1_lookFor
  refine it4_rule (fun x H F W => ∃ i, i ≤ T 1 0 ∧ x = nI i ∧ eq5 (fo (lkS T h day w p) i s) F H W) (fun x _ _ _ => T 1 0 + 1 - x.toNatClampNeg) ?_ _ _ _ _ ⟨0, by omega, rfl, he⟩
  rintro rec x H F W ⟨i, hi, rfl, he⟩ hrec
  have hok' : csok (T 1 0) (fo (lkS T h day w p) i s) := csok_fo (fun j s hj hs => csok_lkS hs hw (by omega) (by omega) hd hd2) hs
  unfold pX1_lookFor_B3
  rw [nI_leI (by omega) (by omega)]
  refine br_c (fun c => ?_) (fun c => ⟨vp_in_nI (by omega) (by omega), ?_⟩)
  · have e : i = T 1 0 := by omega
    subst e
    exact k F H W he
  have hFs : fo (lkS T h day w p) (i + 1) s = lkS T h day w p i (fo (lkS T h day w p) i s) := rfl
  have hnext : lkS T h day w p i (fo (lkS T h day w p) i s) = fo (lkS T h day w p) i s → rec (nI i + 1) H F W := by
    intro e
    rw [nI_1]
    exact hrec _ _ _ _ ⟨i + 1, by omega, rfl, by rw [hFs, e]; exact he⟩ (by rw [nI_clamp (by omega), nI_clamp (by omega)]; omega)
  rw [nI_clamp (by omega), nI_clamp (by omega), nI_clamp (by omega), nm4_rfl, (he w (by omega)).2.1, (he i (by omega)).1]
  have hw1 := neg_nm (by omega) (hok' w).2.1
  have hi1 := neg_nm (by omega) (hok' i).1
  refine ⟨fun c2 => ?_, fun c2 => ⟨vp_in_nI (by omega) (by omega), fun c3 => ?_, fun c3 => ⟨vp_in_nI (by omega) (by omega), vp_in_nI (by omega) (by omega), ?_⟩⟩⟩
  · have e := lk_stop (T := T) (h := h) (day := day) (w := w) (p := p) (i := i) (s := s) (fun q => c2 (hw1.mp q)) (T 1 0 - i)
    rw [show i + (T 1 0 - i) = T 1 0 by omega] at e
    exact k F H W (by rw [e]; exact he)
  · exact hnext (by rw [lkS, if_neg (fun q => c3 (hi1.mp q.2.1))])
  · rw [hB i (by omega) day hd hd2, nI_eq (by have := pos_lt (P := T 0 0) (H := T 4) (kd := T 7 i) (d := day) (hh.2.1 i (by omega)); unfold psN; omega) (by omega)]
    refine ⟨fun c4 => hnext (by rw [lkS, if_neg (fun q => c4 q.2.2.1)]), fun c4 => ?_⟩
    have g1 := t9 i (by omega)
    have g2 := t9 w (by omega)
    refine s_suits t5 (by omega) (by omega) (hg i (by omega)) (hg w (by omega)) g1.1 g1.2.1 g2.2.1 (by omega) ?_
    by_cases c5 : suN (T 2 0) (T 6 w) (T 6 i) day = true
    · rw [if_pos c5]
      refine ⟨fun q => absurd q (by decide), fun _ => ⟨vp_in_nI (by omega) (by omega), vp_in_nI (by omega) (by omega), vp_in_nI (by omega) (by omega), ?_⟩⟩
      rw [nI_1]
      refine hrec _ _ _ _ ⟨i + 1, by omega, rfl, ?_⟩ (by rw [nI_clamp (by omega), nI_clamp (by omega)]; omega)
      rw [hFs, lkS, if_pos ⟨hw1.mpr c2, hi1.mpr c3, c4, c5⟩]
      intro k hk
      obtain ⟨a1, a2, a3⟩ := he k hk
      refine ⟨?_, ?_, ?_⟩
      · show upd F i (nI w) k = upd (fo (lkS T h day w p) i s).1 i (nI w) k
        exact upd_c a1
      · show upd H w (nI i) k = upd (fo (lkS T h day w p) i s).2.1 w (nI i) k
        exact upd_c a2
      · show upd W w (nI day) k = upd (fo (lkS T h day w p) i s).2.2 w (nI day) k
        exact upd_c a3
    · rw [if_neg c5]
      exact ⟨fun _ => hnext (by rw [lkS, if_neg (fun q => c5 q.2.2.2)]), fun q => absurd rfl q⟩
