theorem lw_sub5 {L q : Nat} (hL : L ≤ 320) (hq : q ≤ 400) : (nI L - 5 < nI q) ↔ L < q + 5 := by
  by_cases c : 5 ≤ L
  · rw [show (5 : Int32) = nI 5 from rfl, pk_sub c, nI_ltI (by omega) (by omega)]
    omega
  · have h0 : nI L - 5 < 0 := by
      rcases (show L = 0 ∨ L = 1 ∨ L = 2 ∨ L = 3 ∨ L = 4 by omega) with rfl | rfl | rfl | rfl | rfl <;> decide
    exact ⟨fun _ => by omega, fun _ => Int32.lt_of_lt_of_le h0 (nI_pos' (by omega))⟩
theorem lw_tabx (x : Int32) (h : ¬ (x.toInt < 0 ∨ 24 < x.toInt)) : ¬ x = (0 : Int32) → ¬ x = (1 : Int32) → ¬ x = (2 : Int32) → ¬ x = (3 : Int32) → ¬ x = (4 : Int32) → ¬ x = (5 : Int32) → ¬ x = (6 : Int32) → ¬ x = (7 : Int32) → ¬ x = (8 : Int32) → ¬ x = (9 : Int32) → ¬ x = (10 : Int32) → ¬ x = (11 : Int32) → ¬ x = (12 : Int32) → ¬ x = (13 : Int32) → ¬ x = (14 : Int32) → ¬ x = (15 : Int32) → ¬ x = (16 : Int32) → ¬ x = (17 : Int32) → ¬ x = (18 : Int32) → ¬ x = (19 : Int32) → ¬ x = (20 : Int32) → ¬ x = (21 : Int32) → ¬ x = (22 : Int32) → ¬ x = (23 : Int32) → ¬ x = (24 : Int32) → False := by
  intro h0 h1 h2 h3 h4 h5 h6 h7 h8 h9 h10 h11 h12 h13 h14 h15 h16 h17 h18 h19 h20 h21 h22 h23 h24
  obtain ⟨j, hj, rfl⟩ : ∃ j : Nat, j < 25 ∧ x = nI j := ⟨x.toInt.toNat, by omega, by apply Int32.toInt_inj.mp; rw [nI_toInt (by omega)]; omega⟩
  clear h
  rcases (show j = 0 ∨ j = 1 ∨ j = 2 ∨ j = 3 ∨ j = 4 ∨ j = 5 ∨ j = 6 ∨ j = 7 ∨ j = 8 ∨ j = 9 ∨ j = 10 ∨ j = 11 ∨ j = 12 ∨ j = 13 ∨ j = 14 ∨ j = 15 ∨ j = 16 ∨ j = 17 ∨ j = 18 ∨ j = 19 ∨ j = 20 ∨ j = 21 ∨ j = 22 ∨ j = 23 ∨ j = 24 by omega) with rfl | rfl | rfl | rfl | rfl | rfl | rfl | rfl | rfl | rfl | rfl | rfl | rfl | rfl | rfl | rfl | rfl | rfl | rfl | rfl | rfl | rfl | rfl | rfl | rfl
  · exact h0 rfl
  · exact h1 rfl
  · exact h2 rfl
  · exact h3 rfl
  · exact h4 rfl
  · exact h5 rfl
  · exact h6 rfl
  · exact h7 rfl
  · exact h8 rfl
  · exact h9 rfl
  · exact h10 rfl
  · exact h11 rfl
  · exact h12 rfl
  · exact h13 rfl
  · exact h14 rfl
  · exact h15 rfl
  · exact h16 rfl
  · exact h17 rfl
  · exact h18 rfl
  · exact h19 rfl
  · exact h20 rfl
  · exact h21 rfl
  · exact h22 rfl
  · exact h23 rfl
  · exact h24 rfl
set_option maxHeartbeats 16000000 in
set_option maxRecDepth 100000 in
theorem law_loop {p : Program} {l : Launch} {e : Env} {s : State} {m : MethodId} {below : List Frame} {meth : Method} {c : Code} {b L : Nat} {xs : Nat → Int32} {D : va_G} {tc : Nat → ClassId} {A : Nat → Prop} (C0 : lcx p s m c b L xs D tc A) (hr : meth.sig.returnType = ret) (hlocks : meth.locks = false) (hA2 : ∀ q : Nat, A q → s.heap.size ≤ q) {aX aM : Nat} :
    ∀ (n q : Nat), L + 5 ≤ q + n → q ≤ L + 5 → ∀ (ad : Nat → Nat) (ci : Nat → Int32) (cf : Nat → Nat → Int32) (cB : Nat → Nat → Nat → Int32), pI ci cf cB → ∀ (H : Heap) (locs : List Loc) (ls : Array Slot), va_P D vwCl (bigW tc aX aM ad ci cf cB) H → va_D A (bigW tc aX aM ad ci cf cB) → va_S A s.heap H locs → lv_has ls 4 [(3, .int (nI q)), (2, .ref aM), (1, .ref aX), (0, .ref b)] → W p l e room_1 s m #[Value.ref b] below meth c H locs 107 3860 (lw_Z below #[Value.ref b] s) (F0 m 18 ls []) := by
  obtain ⟨hx, hb, hml, hown, hts, hK, hA, hX, hbl, hbA, hL⟩ := id C0
  intro n
  induction n with
  | zero =>
    intro q h1 h2 ad ci cf cB hI H locs ls hP hD hS hl
    refine lv_iload_n hx hb dL_law_18 rfl (lv_at hl 0 rfl) ?_
    refine lv_aload_n hx hb dL_law_19 rfl (lv_at hl 3 rfl) ?_
    refine va_slen hx hb hX hbl hbA hS dL_law_20 ?_
    refine lv_iconst (v := 5) hx hb dL_law_21 (by decide) ?_
    refine lv_isub hx hb dL_law_22 ?_
    refine lv_icmp_gt (tgt := 885) hx hb dL_law_23 (by decide) (fun _ => ?_) (fun c_ => absurd ((lw_sub5 hL (by omega)).mpr (by omega)) c_)
    refine lv_iconst (v := 1) hx hb dL_law_885 (by decide) ?_
    refine va_forget (fun q hq => hA2 _ (hS.2.2 q hq)) ?_
    refine W.widen (k := 600000) (n := 7302250) (Nat.le_of_ble_eq_true rfl) (Nat.le_of_ble_eq_true rfl) ?_
    exact lw_ret hx hb hr hlocks dL_law_886
  | succ n ih =>
    intro q h1 h2 ad ci cf cB hI H locs ls hP hD hS hl
    refine lv_iload_n hx hb dL_law_18 rfl (lv_at hl 0 rfl) ?_
    refine lv_aload_n hx hb dL_law_19 rfl (lv_at hl 3 rfl) ?_
    refine va_slen hx hb hX hbl hbA hS dL_law_20 ?_
    refine lv_iconst (v := 5) hx hb dL_law_21 (by decide) ?_
    refine lv_isub hx hb dL_law_22 ?_
    refine lv_icmp_gt (tgt := 885) hx hb dL_law_23 (by decide) (fun _ => ?_) (fun c_ => ?_)
    · refine lv_iconst (v := 1) hx hb dL_law_885 (by decide) ?_
      refine va_forget (fun q hq => hA2 _ (hS.2.2 q hq)) ?_
      refine W.widen (k := 600000) (n := 7302250) (Nat.le_of_ble_eq_true rfl) (Nat.le_of_ble_eq_true rfl) ?_
      exact lw_ret hx hb hr hlocks dL_law_886
    · have hq : q + 5 ≤ L := by
        rcases Nat.lt_or_ge L (q + 5) with h | h
        · exact absurd ((lw_sub5 hL (by omega)).mpr h) c_
        · exact h
      have IH : lIH p l e s m below meth c b D tc A (lw_Z below #[Value.ref b] s) aX aM q := by
        intro ad ci cf cB hI H locs ls hP hD hS hl
        refine lv_iinc (v := nI (q + 5)) (lv' := [(3, .int (nI (q + 5))), (2, .ref aM), (1, .ref aX), (0, .ref b)]) hx hb dL_law_879 hl (k := 0) rfl (nI_add q 5) (by decide) rfl (fun ls hl => ?_)
        refine lv_goto (tgt := 18) hx hb dL_law_882 (by decide) ?_
        exact ih (q + 5) (by omega) (by omega) ad ci cf cB hI H locs ls hP hD hS hl
      refine lv_aload_n hx hb dL_law_26 rfl (lv_at hl 3 rfl) ?_
      refine lv_iload_n hx hb dL_law_27 rfl (lv_at hl 0 rfl) ?_
      refine va_sld hx hb hX hbl hbA hS (vp_in_nI (n := q) (by omega) (by omega)) dL_law_28 ?_
      rw [nI_clamp (n := q) (by omega)]
      refine lv_bipush (v := 31) hx hb dL_law_29 (by decide) ?_
      refine lv_iand hx hb dL_law_31 ?_
      refine lv_topi (fun x_ _ => ?_)
      by_cases k0 : x_ = (0 : Int32)
      · refine lv_tableIn (off := 116) (tgt := 148) hx hb dL_law_32 (by rw [k0]; decide) (by rw [k0]; decide) (by rw [k0]; decide) (by decide) ?_
        exact lk_write C0 hq IH hI hP hD hS hl
      by_cases k1 : x_ = (1 : Int32)
      · refine lv_tableIn (off := 179) (tgt := 211) hx hb dL_law_32 (by rw [k1]; decide) (by rw [k1]; decide) (by rw [k1]; decide) (by decide) ?_
        exact lk_wipe C0 hq IH hI hP hD hS hl
      by_cases k2 : x_ = (2 : Int32)
      · refine lv_tableIn (off := 192) (tgt := 224) hx hb dL_law_32 (by rw [k2]; decide) (by rw [k2]; decide) (by rw [k2]; decide) (by decide) ?_
        exact lk_fault C0 hq IH hI hP hD hS hl
      by_cases k3 : x_ = (3 : Int32)
      · refine lv_tableIn (off := 205) (tgt := 237) hx hb dL_law_32 (by rw [k3]; decide) (by rw [k3]; decide) (by rw [k3]; decide) (by decide) ?_
        exact lk_lay C0 hq IH hI hP hD hS hl
      by_cases k4 : x_ = (4 : Int32)
      · refine lv_tableIn (off := 218) (tgt := 250) hx hb dL_law_32 (by rw [k4]; decide) (by rw [k4]; decide) (by rw [k4]; decide) (by decide) ?_
        exact lk_place C0 hq IH hI hP hD hS hl
      by_cases k5 : x_ = (5 : Int32)
      · refine lv_tableIn (off := 251) (tgt := 283) hx hb dL_law_32 (by rw [k5]; decide) (by rw [k5]; decide) (by rw [k5]; decide) (by decide) ?_
        exact lk_skin C0 hq IH hI hP hD hS hl
      by_cases k6 : x_ = (6 : Int32)
      · refine lv_tableIn (off := 284) (tgt := 316) hx hb dL_law_32 (by rw [k6]; decide) (by rw [k6]; decide) (by rw [k6]; decide) (by decide) ?_
        exact lk_where C0 hq IH hI hP hD hS hl
      by_cases k7 : x_ = (7 : Int32)
      · refine lv_tableIn (off := 317) (tgt := 349) hx hb dL_law_32 (by rw [k7]; decide) (by rw [k7]; decide) (by rw [k7]; decide) (by decide) ?_
        exact lk_size C0 hq IH hI hP hD hS hl
      by_cases k8 : x_ = (8 : Int32)
      · refine lv_tableIn (off := 350) (tgt := 382) hx hb dL_law_32 (by rw [k8]; decide) (by rw [k8]; decide) (by rw [k8]; decide) (by decide) ?_
        exact lk_woman C0 hq IH hI hP hD hS hl
      by_cases k9 : x_ = (9 : Int32)
      · refine lv_tableIn (off := 383) (tgt := 415) hx hb dL_law_32 (by rw [k9]; decide) (by rw [k9]; decide) (by rw [k9]; decide) (by decide) ?_
        exact lk_fits C0 hq IH hI hP hD hS hl
      by_cases k10 : x_ = (10 : Int32)
      · refine lv_tableIn (off := 416) (tgt := 448) hx hb dL_law_32 (by rw [k10]; decide) (by rw [k10]; decide) (by rw [k10]; decide) (by decide) ?_
        exact lk_gone C0 hq IH hI hP hD hS hl
      by_cases k11 : x_ = (11 : Int32)
      · refine lv_tableIn (off := 439) (tgt := 471) hx hb dL_law_32 (by rw [k11]; decide) (by rw [k11]; decide) (by rw [k11]; decide) (by decide) ?_
        exact lk_best C0 hq IH hI hP hD hS hl
      by_cases k12 : x_ = (12 : Int32)
      · refine lv_tableIn (off := 472) (tgt := 504) hx hb dL_law_32 (by rw [k12]; decide) (by rw [k12]; decide) (by rw [k12]; decide) (by decide) ?_
        exact lk_hide C0 hq IH hI hP hD hS hl
      by_cases k13 : x_ = (13 : Int32)
      · refine lv_tableIn (off := 505) (tgt := 537) hx hb dL_law_32 (by rw [k13]; decide) (by rw [k13]; decide) (by rw [k13]; decide) (by decide) ?_
        exact lk_look C0 hq IH hI hP hD hS hl
      by_cases k14 : x_ = (14 : Int32)
      · refine lv_tableIn (off := 548) (tgt := 580) hx hb dL_law_32 (by rw [k14]; decide) (by rw [k14]; decide) (by rw [k14]; decide) (by decide) ?_
        exact lk_undo C0 hq IH hI hP hD hS hl
      by_cases k15 : x_ = (15 : Int32)
      · refine lv_tableIn (off := 561) (tgt := 593) hx hb dL_law_32 (by rw [k15]; decide) (by rw [k15]; decide) (by rw [k15]; decide) (by decide) ?_
        exact lk_seen C0 hq IH hI hP hD hS hl
      by_cases k16 : x_ = (16 : Int32)
      · refine lv_tableIn (off := 630) (tgt := 662) hx hb dL_law_32 (by rw [k16]; decide) (by rw [k16]; decide) (by rw [k16]; decide) (by decide) ?_
        exact lk_forget C0 hq IH hI hP hD hS hl
      by_cases k17 : x_ = (17 : Int32)
      · refine lv_tableIn (off := 643) (tgt := 675) hx hb dL_law_32 (by rw [k17]; decide) (by rw [k17]; decide) (by rw [k17]; decide) (by decide) ?_
        exact lk_starts C0 hq IH hI hP hD hS hl
      by_cases k18 : x_ = (18 : Int32)
      · refine lv_tableIn (off := 666) (tgt := 698) hx hb dL_law_32 (by rw [k18]; decide) (by rw [k18]; decide) (by rw [k18]; decide) (by decide) ?_
        exact lk_laws C0 hq IH hI hP hD hS hl
      by_cases k19 : x_ = (19 : Int32)
      · refine lv_tableIn (off := 689) (tgt := 721) hx hb dL_law_32 (by rw [k19]; decide) (by rw [k19]; decide) (by rw [k19]; decide) (by decide) ?_
        exact lk_sure C0 hq IH hI hP hD hS hl
      by_cases k20 : x_ = (20 : Int32)
      · refine lv_tableIn (off := 722) (tgt := 754) hx hb dL_law_32 (by rw [k20]; decide) (by rw [k20]; decide) (by rw [k20]; decide) (by decide) ?_
        exact lk_lots C0 hq IH hI hP hD hS hl
      by_cases k21 : x_ = (21 : Int32)
      · refine lv_tableIn (off := 765) (tgt := 797) hx hb dL_law_32 (by rw [k21]; decide) (by rw [k21]; decide) (by rw [k21]; decide) (by decide) ?_
        exact lk_year C0 hq IH hI hP hD hS hl
      by_cases k22 : x_ = (22 : Int32)
      · refine lv_tableIn (off := 798) (tgt := 830) hx hb dL_law_32 (by rw [k22]; decide) (by rw [k22]; decide) (by rw [k22]; decide) (by decide) ?_
        exact lk_keep C0 hq IH hI hP hD hS hl
      by_cases k23 : x_ = (23 : Int32)
      · refine lv_tableIn (off := 811) (tgt := 843) hx hb dL_law_32 (by rw [k23]; decide) (by rw [k23]; decide) (by rw [k23]; decide) (by decide) ?_
        exact lk_back C0 hq IH hI hP hD hS hl
      by_cases k24 : x_ = (24 : Int32)
      · refine lv_tableIn (off := 824) (tgt := 856) hx hb dL_law_32 (by rw [k24]; decide) (by rw [k24]; decide) (by rw [k24]; decide) (by decide) ?_
        exact lk_count C0 hq IH hI hP hD hS hl
      by_cases ko : x_.toInt < 0 ∨ 24 < x_.toInt
      · refine lv_tableOut (tgt := 879) hx hb dL_law_32 ko (by decide) ?_
        exact IH ad ci cf cB hI H locs ls hP hD hS hl
      · exact absurd (lw_tabx x_ ko k0 k1 k2 k3 k4 k5 k6 k7 k8 k9 k10 k11 k12 k13 k14 k15 k16 k17 k18 k19 k20 k21 k22 k23 k24) id
