/-! ===== the reference: the text ===== -/
def mby (tx : Nat → Nat) (n : Nat) (f : Nat → Int32) : Prop := ∀ k, k < n → f k = nI (tx k)
def btN (tx : Nat → Nat) (n a : Nat) : Nat := if a < n then tx a else 0
theorem s_byteAt {tx : Nat → Nat} {n a : Nat} {f : Nat → Int32} {K : Int32 → Prop} (hn : n ≤ 300) (ha : a ≤ 400) (hf : mby tx n f) (h : K (nI (btN tx n a))) : pX9_byteAt (nI n) f (nI a) K := by
  unfold pX9_byteAt
  unfold btN at h
  rw [nI_leI (by omega) (by omega)]
  refine br_c (fun c => ?_) (fun c => ⟨vp_in_nI (by omega) (by omega), ?_⟩)
  · rw [if_neg (by omega)] at h; exact h
  · rw [if_pos (by omega)] at h; rw [nI_clamp (by omega), hf a (by omega)]; exact h
theorem s_inN {b lo hi : Nat} {l h : Int64} {K : Int32 → Prop} (hb : b < 2 ^ 31) (el : l.toInt = lo) (eh : h.toInt = hi) (h1 : lo ≤ b → b ≤ hi → K 1) (h0 : ¬ (lo ≤ b ∧ b ≤ hi) → K 0) : pX9_in (nI b).toInt64 l h K := by
  refine s_in (fun c1 c2 => h1 ?_ ?_) (fun c => h0 ?_)
  · rw [t64, nI_toInt hb, el] at c1; omega
  · rw [t64, nI_toInt hb, eh] at c2; omega
  · rw [t64, nI_toInt hb, el, eh] at c; omega
theorem dg_bt {tx : Nat → Nat} {n a : Nat} : dgb tx n a = true ↔ 48 ≤ btN tx n a ∧ btN tx n a ≤ 57 := by
  unfold dgb btN
  simp only [Bool.and_eq_true, decide_eq_true_eq]
  split <;> omega
theorem is_bt {tx : Nat → Nat} {n a e : Nat} (he : 0 < e) : isb tx n a e = true ↔ btN tx n a = e := by
  unfold isb btN
  simp only [Bool.and_eq_true, decide_eq_true_eq]
  split <;> omega
theorem bt_lt {tx : Nat → Nat} {n a : Nat} (ht : ∀ k, tx k < 256) : btN tx n a < 256 := by
  unfold btN; have := ht a; split <;> omega
theorem s_figures {tx : Nat → Nat} {n a w : Nat} {f told : Nat → Int32} {K : Int32 → Int32 → (Nat → Int32) → Prop} (hn : n ≤ 300) (ha : a ≤ 300) (ht : ∀ k, tx k < 256) (hf : mby tx n f) (hw : w ≤ 3)
    (h0 : fgN tx n w a = none → ∀ sp told, K 0 sp told) (h1 : ∀ a2 V told, fgN tx n w a = some (a2, V) → (∀ j, j < w → told j = nI (V j)) → K 1 (nI a2) told) : pX9_figures (nI n) (nI a) f told (nI w) K := by
  unfold pX9_figures
  unfold fgN at h0 h1
  refine it3_rule (fun x y told => ∃ k a2 V, k ≤ w ∧ x = nI k ∧ fo (fgF tx n w) k (some (a, fun _ => 0)) = some (a2, V) ∧ y = nI a2 ∧ ∀ j, j < k → told j = nI (V j)) (fun x _ _ => w + 1 - x.toNatClampNeg) ?_ _ _ _ ⟨0, a, _, by omega, rfl, rfl, rfl, fun j hj => by omega⟩
  rintro rec x y told ⟨k, a2, V, hk, rfl, e, rfl, hV⟩ hrec
  unfold pX9_figures_B2
  obtain ⟨i1, i2, i3⟩ := fg_ok k a2 V e
  have ha2 : a2 ≤ 300 := by
    by_cases c : 1 ≤ k
    · have := i2 c; omega
    · have : k = 0 := by omega
      subst this
      cases e; omega
  rw [nI_leI (by omega) (by omega)]
  refine br_c (fun c => ?_) (fun c => ?_)
  · have e2 : k = w := by omega
    subst e2
    exact h1 a2 V told e hV
  · obtain ⟨en, hen⟩ : ∃ en, en = (if k + 1 < w then 44 else 59) := ⟨_, rfl⟩
    have hs : fo (fgF tx n w) (k + 1) (some (a, fun _ => 0)) = (nbS tx n a2 en).bind fun q => some (q.2, upN V k q.1) := by rw [fo_s, e, hen]; rfl
    have hen0 : 0 < en ∧ en < 60 ∧ ¬ (48 ≤ en ∧ en ≤ 57) := by rw [hen]; split <;> omega
    have hno : nbS tx n a2 en = none → ∀ sp told, K 0 sp told := by
      intro z
      refine h0 ?_
      have := fg_none (n := n) (tx := tx) (w := w) (k := k + 1) (s := some (a, fun _ => 0)) (by rw [hs, z]; rfl) (w - (k + 1))
      rw [show k + 1 + (w - (k + 1)) = w by omega] at this
      exact this
    have hyes : ∀ v a3, nbS tx n a2 en = some (v, a3) → rec (nI (k + 1)) (nI a3) (upd told (nI k).toNatClampNeg (nI v)) := by
      intro v a3 z
      rw [nI_clamp (by omega)]
      refine hrec _ _ _ ⟨k + 1, a3, upN V k v, by omega, rfl, by rw [hs, z]; rfl, rfl, fun j hj => ?_⟩ (by rw [nI_clamp (by omega), nI_clamp (by omega)]; omega)
      by_cases e3 : j = k
      · rw [e3, pk_us, upN_s]
      · rw [pk_un e3, upN_n e3]; exact hV j (by omega)
    have hwk : (nI w - 1 ≤ nI k) = (w ≤ k + 1) := by
      obtain ⟨b, hb⟩ : ∃ b, w = b + 1 := ⟨w - 1, by omega⟩
      rw [hb, nI_pred, nI_leI (by omega) (by omega)]
      exact propext ⟨fun q => by omega, fun q => by omega⟩
    -- the digits
    refine it3_rule (fun x v y => ∃ q v', q ≤ 3 ∧ x = nI q ∧ v = nI v' ∧ y = nI (a2 + q) ∧ (∀ j, j < q → dgb tx n (a2 + j) = true) ∧ v' < 1000 ∧ (q = 0 → v' = 0) ∧ (q = 1 → v' = tx a2 - 48) ∧ (q = 2 → v' = (tx a2 - 48) * 10 + (tx (a2 + 1) - 48))) (fun x _ _ => 4 - x.toNatClampNeg) ?_ _ _ _ ⟨0, 0, by omega, rfl, rfl, rfl, fun j hj => by omega, by omega, fun _ => rfl, fun q => by omega, fun q => by omega⟩
    rintro rec2 x v y ⟨q, v', hq, rfl, rfl, rfl, hdg, hv', v0, v1, v2⟩ hrec2
    unfold pX9_figures_B12
    have hbt := bt_lt (tx := tx) (n := n) (a := a2 + q) ht
    have hfin : (dgb tx n (a2 + q) = true → 3 ≤ q) → pX9_in (nI q).toInt64 (1 : Int64) (2 : Int64) (fun (r_25 : Int32) => ((r_25 = 0 → (K 0 (nI (a2 + q)) told)) ∧ (¬ (r_25 = 0) → (pX9_byteAt (nI n) f (nI (a2 + q)) (fun (r_27 : Int32) => (((nI w - 1) ≤ nI k → ((r_27 = 59 → (vp_in (nI k) 3 ∧ (rec (nI k + 1) (nI (a2 + q) + 1) (upd told (nI k).toNatClampNeg (nI v'))))) ∧ (¬ (r_27 = 59) → (K 0 (nI (a2 + q)) told)))) ∧ (¬ ((nI w - 1) ≤ nI k) → ((r_27 = 44 → (vp_in (nI k) 3 ∧ (rec (nI k + 1) (nI (a2 + q) + 1) (upd told (nI k).toNatClampNeg (nI v'))))) ∧ (¬ (r_27 = 44) → (K 0 (nI (a2 + q)) told)))))))))) := by
      intro hstop
      have hnb : nbS tx n a2 en = if 1 ≤ q ∧ q ≤ 2 ∧ btN tx n (a2 + q) = en then some (v', a2 + q + 1) else none := by
        unfold nbS
        rcases (show q = 0 ∨ q = 1 ∨ q = 2 ∨ q = 3 by omega) with z | z | z | z
        · subst z
          rw [if_neg (fun y => by have := hstop y; omega), if_neg (by omega)]
        · subst z
          rw [if_pos (show dgb tx n a2 = true from hdg 0 (by omega)), if_neg (fun y => by have := hstop y; omega), v1 rfl]
          by_cases y : btN tx n (a2 + 1) = en
          · rw [if_pos ((is_bt hen0.1).mpr y), if_pos ⟨by omega, by omega, y⟩]
          · rw [if_neg (fun u => y ((is_bt hen0.1).mp u)), if_neg (fun u => y u.2.2)]
        · subst z
          rw [if_pos (show dgb tx n a2 = true from hdg 0 (by omega)), if_pos (hdg 1 (by omega)), v2 rfl]
          by_cases y : btN tx n (a2 + 2) = en
          · rw [if_pos ((is_bt hen0.1).mpr y), if_pos ⟨by omega, by omega, y⟩]
          · rw [if_neg (fun u => y ((is_bt hen0.1).mp u)), if_neg (fun u => y u.2.2)]
        · subst z
          rw [if_pos (show dgb tx n a2 = true from hdg 0 (by omega)), if_pos (hdg 1 (by omega)), if_neg (show ¬ (1 ≤ 3 ∧ 3 ≤ 2 ∧ btN tx n (a2 + 3) = en) by omega), if_neg]
          intro u
          have := (is_bt hen0.1).mp u
          have := dg_bt.mp (hdg 2 (by omega))
          omega
      refine s_inN (lo := 1) (hi := 2) (by omega) (by decide) (by decide) (fun c1 c2 => ⟨fun z => absurd z (by decide), fun _ => s_byteAt hn (by omega) hf ?_⟩) (fun c => ⟨fun _ => hno (by rw [hnb, if_neg (by omega)]) _ _, fun z => absurd rfl z⟩)
      rw [hwk, nI_1 k, nI_1 (a2 + q), show (59 : Int32) = nI 59 from rfl, show (44 : Int32) = nI 44 from rfl, nI_eq (by omega) (by omega), nI_eq (by omega) (by omega)]
      have hgo : btN tx n (a2 + q) = en → vp_in (nI k) 3 ∧ rec (nI (k + 1)) (nI (a2 + q + 1)) (upd told (nI k).toNatClampNeg (nI v')) := fun z => ⟨vp_in_nI (by omega) (by omega), hyes v' _ (by rw [hnb, if_pos ⟨c1, c2, z⟩])⟩
      have hst : ¬ btN tx n (a2 + q) = en → K 0 (nI (a2 + q)) told := fun z => hno (by rw [hnb, if_neg (fun u => z u.2.2)]) _ _
      refine ⟨fun c3 => ?_, fun c3 => ?_⟩
      · rw [if_neg (by omega)] at hen
        exact ⟨fun z => hgo (by omega), fun z => hst (by omega)⟩
      · rw [if_pos (by omega)] at hen
        exact ⟨fun z => hgo (by omega), fun z => hst (by omega)⟩
    refine s_byteAt hn (by omega) hf (s_inN (lo := 48) (hi := 57) (by omega) (by decide) (by decide) (fun c1 c2 => ⟨fun z => absurd z (by decide), fun _ => ?_⟩) (fun c => ⟨fun _ => hfin (fun z => absurd (dg_bt.mp z) c), fun z => absurd rfl z⟩))
    rw [show (3 : Int32) = nI 3 from rfl, nI_leI (by omega) (by omega)]
    refine br_c (fun c3 => hfin (fun _ => c3)) (fun c3 => s_byteAt hn (by omega) hf ?_)
    have hd : dgb tx n (a2 + q) = true := dg_bt.mpr ⟨c1, c2⟩
    have hbe : btN tx n (a2 + q) = tx (a2 + q) := by
      unfold btN
      rw [if_pos]
      unfold dgb at hd
      simp only [Bool.and_eq_true, decide_eq_true_eq] at hd
      exact hd.1
    rw [show (10 : Int32) = nI 10 from rfl, pk_mul, nI_add, show (48 : Int32) = nI 48 from rfl, pk_sub (by omega), nI_1, nI_1]
    have hvb : (q = 0 → v' ≤ 0) ∧ (q = 1 → v' ≤ 9) ∧ (q = 2 → v' ≤ 99) := by
      refine ⟨fun z => by have := v0 z; omega, fun z => ?_, fun z => ?_⟩
      · have := v1 z
        have := dg_bt.mp (hdg 0 (by omega))
        unfold btN at this
        split at this
        · simp only [Nat.add_zero] at this; omega
        · omega
      · have := v2 z
        have g0 := dg_bt.mp (hdg 0 (by omega))
        have g1 := dg_bt.mp (hdg 1 (by omega))
        unfold btN at g0 g1
        split at g0
        · split at g1
          · simp only [Nat.add_zero] at g0; omega
          · omega
        · omega
    refine hrec2 _ _ _ ⟨q + 1, _, by omega, rfl, rfl, rfl, fun j hj => ?_, by omega, fun z => by omega, fun z => ?_, fun z => ?_⟩ (by rw [nI_clamp (by omega), nI_clamp (by omega)]; omega)
    · by_cases e3 : j = q
      · rw [e3]; exact hd
      · exact hdg j (by omega)
    · have e3 : q = 0 := by omega
      subst e3
      have e4 := v0 rfl
      rw [Nat.add_zero] at hbe
      rw [Nat.add_zero]
      omega
    · have e3 : q = 1 := by omega
      subst e3
      have e4 := v1 rfl
      omega
