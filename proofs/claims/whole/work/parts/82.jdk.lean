/-! ===== the constant text, as the JDK's String holds it ===== -/
def jsB : List Int32 := [112, 48, 44, 53, 59, 112, 48, 44, 53, 59, 112, 49, 44, 50, 59, 115, 48, 44, 54, 44, 48, 59, 115, 50, 44, 54, 44, 49, 59, 108, 48, 44, 49, 44, 49, 59, 108, 49, 44, 50, 44, 50, 59]
def sxK (aS aV : Nat) (A : Nat → Prop) (U : State) (H : Heap) : Prop := vk_S 1 [43] [jsB] (fun _ => aS) (fun _ => aV) A U H ∧ va_Z "java/lang/String" "COMPACT_STRINGS" "Z" (.int 1) A U H ∧ va_Zq "jdk/internal/util/Preconditions" "SIOOBE_FORMATTER" "Ljava/util/function/BiFunction;" A U H
def sxP (aS aV : Nat) (sz : Nat) (U : State) : Prop := U.heap.size = sz ∧ sxK aS aV (va_A [] U.heap.size) U U.heap
theorem sxK.moved {aS aV : Nat} {A : Nat → Prop} {u U : State} {H : Heap} (hvm : u.vm.Alike U.vm) (h : sxK aS aV A u H) : sxK aS aV A U H := ⟨vk_S.moved hvm h.1, va_Z.moved hvm h.2.1, va_Zq.moved hvm h.2.2⟩
theorem sxK.kept {aS aV : Nat} {A : Nat → Prop} {U : State} {H H1 : Heap} (h : sxK aS aV A U H) (hq : ∀ a : Nat, a < H.size → ¬ A a → H1[a]? = H[a]?) : sxK aS aV A U H1 := ⟨h.1.kept hq, h.2.1.kept hq, h.2.2.kept hq⟩
theorem sxK.narrow {aS aV : Nat} {A B : Nat → Prop} {U : State} {H : Heap} (h : sxK aS aV A U H) (hAB : ∀ q, B q → A q) : sxK aS aV B U H := ⟨h.1.narrow hAB, h.2.1.narrow hAB, h.2.2.narrow hAB⟩
theorem va_nilD {A : Nat → Prop} : va_D A [] := ⟨fun i j p q h => (by cases h), fun k q h => (by cases h)⟩
theorem va_nilP {D : va_G} {cl : List vw_C} {H : Heap} : va_P D cl [] H := fun k q h => (by cases h)
theorem va_A0 {n q : Nat} (h : va_A [] n q) : n ≤ q := by
  rcases h with ⟨k, e, h⟩ | h
  · cases h
  · exact h
theorem sx_at {aS aV : Nat} {A : Nat → Prop} {s : State} {H : Heap} {locs : List Loc} {As : List Value} (h : sxK aS aV A s s.heap) (hS : va_S A s.heap H locs) (hA : ∀ q, s.heap.size ≤ q → A q) : ∀ U : State, U.heap = H → s.WarmedH U.vm → va_Pc As (sxP aS aV H.size) As.toArray U := by
  intro U hU hW
  refine ⟨rfl, by rw [hU], ?_⟩
  rw [hU]
  refine ((h.kept (fun a h1 h2 => hS.2.1 a h1 h2)).narrow (fun q hq => hA q ?_)).moved hW.alike
  exact Nat.le_trans hS.1 (va_A0 hq)
theorem sx_blind {aS aV sz : Nat} {As : List Value} : FrameBlind (va_Pc As (sxP aS aV sz)) := fun a U g mk q => ⟨q.1, q.2.1, q.2.2.moved (u := U) (U := U.calling g mk a) (Vm.Alike.refl U.vm)⟩
theorem sx_V {aS aV : Nat} {A : Nat → Prop} {s : State} {H : Heap} {locs : List Loc} {As : List Value} (h : sxK aS aV A s s.heap) (hS : va_S A s.heap H locs) (hA : ∀ q, s.heap.size ≤ q → A q) : PreV s H "java/lang/String" aS (va_Pc (.ref aS :: As) (sxP aS aV H.size)) As := ⟨sx_blind, vk_recv (i := 0) h.1 (by decide) hS, sx_at h hS hA⟩
theorem sx_S {aS aV : Nat} {A : Nat → Prop} {s : State} {H : Heap} {locs : List Loc} {As : List Value} (h : sxK aS aV A s s.heap) (hS : va_S A s.heap H locs) (hA : ∀ q, s.heap.size ≤ q → A q) : PreS s H (va_Pc As (sxP aS aV H.size)) As := ⟨sx_blind, sx_at h hS hA⟩
theorem wJ0_coder_7d493_cs : Cond.fieldLink RJ0 38 "java/lang/String" "COMPACT_STRINGS" "Z" ∈ wsJ0_coder_7d493 := by decide +kernel
theorem wJ0_coder_7d493_co : Cond.fieldLink RJ0 15 "java/lang/String" "coder" "B" ∈ wsJ0_coder_7d493 := by decide +kernel
set_option maxHeartbeats 4000000 in
set_option maxRecDepth 100000 in
theorem mJ0_coder_7d493 {l : Launch} {D : va_G} {sz aS aV : Nat}  {K : Int32 → Prop}  (hw : K 0) : Met l yJ0_coder_7d493 wsJ0_coder_7d493 ({ frames := 0, cells := 0, slots := 0, locals := 0 } : Room) (va_Pc [.ref aS] (sxP aS aV sz)) (va_Qi (S := Unit) (fun (r : Int32) (_ : Unit) => K r) (fun _ => wpost D (va_A [] sz) []) (va_A [] sz)) 0 0 (va_A [] sz) := by
  refine Met.ofW (cc := cJ0_coder_7d493) (maxL := 1) (ret := (some .byte)) (by decide) rfl ?_
  intro p e s m args below meth c s₁ B hml hv
  obtain ⟨rfl, hsz, hsx⟩ := hv
  have hx := B.exec
  have hb := B.bytes
  have hr := B.returns
  have hts := atoms_spec (ws := wsJ0_coder_7d493) B.pre
  have hown : s.vm.findClass RJ0 = some m.cls := findClass_of_methodNamed B.named
  have hlocks := B.notSynchronized
  subst hsz
  have hD : va_D (va_A [] s.heap.size) [] := va_nilD
  generalize hAe : va_A [] s.heap.size = A at hD hsx ⊢
  have hA : ∀ q : Nat, s.heap.size ≤ q → A q := fun q h => by rw [← hAe]; exact Or.inr h
  have hS : va_S A s.heap s.heap [] := va_S.rf
  have hP : va_P D vwCl [] s.heap := va_nilP
  have hl := lv_entry ([.ref aS]) (n := 1) (Nat.le_of_ble_eq_true rfl)
  rw [lg_entry_eq]
  generalize (lg_sl ([.ref aS]) ++ List.replicate (1 - (lg_sl ([.ref aS])).length) Slot.unset).toArray = ls at hl ⊢
  have hl : lv_has ls 1 [(0, .ref aS)] := hl
  suffices hsf : ∀ H : Heap, H = s.heap → W p l e _ s m _ below meth c H [] 0 0 _ _ from hsf _ rfl
  intro H hHe
  have hS : va_S A s.heap H [] := by rw [hHe]; exact hS
  have hP : va_P D vwCl [] H := by rw [hHe]; exact hP
  obtain ⟨hstr, hcs, hsf⟩ := id hsx
  obtain ⟨o1, o2, o3, o4⟩ := hstr.1 0 (by decide)
  refine va_gets hx hb hcs hS hown (hts _ wJ0_coder_7d493_cs) (fun _ h9 => h9) dJ0_coder_7d493_0 ?_
  refine lv_if_eq (tgt := 13) hx hb dJ0_coder_7d493_3 (by decide) (fun c_ => absurd c_ (by decide)) (fun _ => ?_)
  refine lv_aload_n hx hb dJ0_coder_7d493_6 rfl (lv_at hl 0 rfl) ?_
  refine vk_getf hx hb o2 hS hown (hts _ wJ0_coder_7d493_co) (fun _ h9 => h9) dJ0_coder_7d493_7 ?_
  refine lv_goto (tgt := 14) hx hb dJ0_coder_7d493_10 (by decide) ?_
  exact W.zret (ty := .byte) (v := 0) hx hb hr rfl (fun t ht hW => ⟨⟨0, (), rfl, hw, by rw [ht]; exact hP, hD⟩, hS.F ht⟩) hS.2.2 dJ0_coder_7d493_14
theorem wJ0_isLatin1_aae02_cs : Cond.fieldLink RJ0 38 "java/lang/String" "COMPACT_STRINGS" "Z" ∈ wsJ0_isLatin1_aae02 := by decide +kernel
theorem wJ0_isLatin1_aae02_co : Cond.fieldLink RJ0 15 "java/lang/String" "coder" "B" ∈ wsJ0_isLatin1_aae02 := by decide +kernel
set_option maxHeartbeats 4000000 in
set_option maxRecDepth 100000 in
theorem mJ0_isLatin1_aae02 {l : Launch} {D : va_G} {sz aS aV : Nat}  {K : Int32 → Prop}  (hw : K 1) : Met l yJ0_isLatin1_aae02 wsJ0_isLatin1_aae02 ({ frames := 0, cells := 0, slots := 0, locals := 0 } : Room) (va_Pc [.ref aS] (sxP aS aV sz)) (va_Qi (S := Unit) (fun (r : Int32) (_ : Unit) => K r) (fun _ => wpost D (va_A [] sz) []) (va_A [] sz)) 0 0 (va_A [] sz) := by
  refine Met.ofW (cc := cJ0_isLatin1_aae02) (maxL := 1) (ret := (some .boolean)) (by decide) rfl ?_
  intro p e s m args below meth c s₁ B hml hv
  obtain ⟨rfl, hsz, hsx⟩ := hv
  have hx := B.exec
  have hb := B.bytes
  have hr := B.returns
  have hts := atoms_spec (ws := wsJ0_isLatin1_aae02) B.pre
  have hown : s.vm.findClass RJ0 = some m.cls := findClass_of_methodNamed B.named
  have hlocks := B.notSynchronized
  subst hsz
  have hD : va_D (va_A [] s.heap.size) [] := va_nilD
  generalize hAe : va_A [] s.heap.size = A at hD hsx ⊢
  have hA : ∀ q : Nat, s.heap.size ≤ q → A q := fun q h => by rw [← hAe]; exact Or.inr h
  have hS : va_S A s.heap s.heap [] := va_S.rf
  have hP : va_P D vwCl [] s.heap := va_nilP
  have hl := lv_entry ([.ref aS]) (n := 1) (Nat.le_of_ble_eq_true rfl)
  rw [lg_entry_eq]
  generalize (lg_sl ([.ref aS]) ++ List.replicate (1 - (lg_sl ([.ref aS])).length) Slot.unset).toArray = ls at hl ⊢
  have hl : lv_has ls 1 [(0, .ref aS)] := hl
  suffices hsf : ∀ H : Heap, H = s.heap → W p l e _ s m _ below meth c H [] 0 0 _ _ from hsf _ rfl
  intro H hHe
  have hS : va_S A s.heap H [] := by rw [hHe]; exact hS
  have hP : va_P D vwCl [] H := by rw [hHe]; exact hP
  obtain ⟨hstr, hcs, hsf⟩ := id hsx
  obtain ⟨o1, o2, o3, o4⟩ := hstr.1 0 (by decide)
  refine va_gets hx hb hcs hS hown (hts _ wJ0_isLatin1_aae02_cs) (fun _ h9 => h9) dJ0_isLatin1_aae02_0 ?_
  refine lv_if_eq (tgt := 17) hx hb dJ0_isLatin1_aae02_3 (by decide) (fun c_ => absurd c_ (by decide)) (fun _ => ?_)
  refine lv_aload_n hx hb dJ0_isLatin1_aae02_6 rfl (lv_at hl 0 rfl) ?_
  refine vk_getf hx hb o2 hS hown (hts _ wJ0_isLatin1_aae02_co) (fun _ h9 => h9) dJ0_isLatin1_aae02_7 ?_
  refine lv_if_ne (tgt := 17) hx hb dJ0_isLatin1_aae02_10 (by decide) (fun c_ => absurd rfl c_) (fun _ => ?_)
  refine lv_iconst (v := 1) hx hb dJ0_isLatin1_aae02_13 (by decide) ?_
  refine lv_goto (tgt := 18) hx hb dJ0_isLatin1_aae02_14 (by decide) ?_
  exact W.zret (ty := .boolean) (v := 1) hx hb hr nbool_1 (fun t ht hW => ⟨⟨1, (), rfl, hw, by rw [ht]; exact hP, hD⟩, hS.F ht⟩) hS.2.2 dJ0_isLatin1_aae02_18

set_option maxHeartbeats 4000000 in
set_option maxRecDepth 100000 in
theorem mJ3_checkIndex_8e157_n {l : Launch} {D : va_G} {sz aS aV : Nat} {x n : Nat} {K : Int32 → Prop} (h1 : x < n) (h2 : n < 2 ^ 31) (hw : K (nI x)) : Met l yJ3_checkIndex_8e157 wsJ3_checkIndex_8e157 ({ frames := 0, cells := 0, slots := 0, locals := 0 } : Room) (va_Pc [.int (nI x), .int (nI n), .null] (sxP aS aV sz)) (va_Qi (S := Unit) (fun (r : Int32) (_ : Unit) => K r) (fun _ => wpost D (va_A [] sz) []) (va_A [] sz)) 0 0 (va_A [] sz) := by
  refine Met.ofW (cc := cJ3_checkIndex_8e157) (maxL := 3) (ret := (some .int)) (by decide) rfl ?_
  intro p e s m args below meth c s₁ B hml hv
  obtain ⟨rfl, hsz, hsx⟩ := hv
  have hx := B.exec
  have hb := B.bytes
  have hr := B.returns
  have hts := atoms_spec (ws := wsJ3_checkIndex_8e157) B.pre
  have hown : s.vm.findClass RJ3 = some m.cls := findClass_of_methodNamed B.named
  have hlocks := B.notSynchronized
  subst hsz
  have hD : va_D (va_A [] s.heap.size) [] := va_nilD
  generalize hAe : va_A [] s.heap.size = A at hD hsx ⊢
  have hA : ∀ q : Nat, s.heap.size ≤ q → A q := fun q h => by rw [← hAe]; exact Or.inr h
  have hS : va_S A s.heap s.heap [] := va_S.rf
  have hP : va_P D vwCl [] s.heap := va_nilP
  have hl := lv_entry ([.int (nI x), .int (nI n), .null]) (n := 3) (Nat.le_of_ble_eq_true rfl)
  rw [lg_entry_eq]
  generalize (lg_sl ([.int (nI x), .int (nI n), .null]) ++ List.replicate (3 - (lg_sl ([.int (nI x), .int (nI n), .null])).length) Slot.unset).toArray = ls at hl ⊢
  have hl : lv_has ls 3 [(0, .int (nI x)), (1, .int (nI n)), (2, .null)] := hl
  suffices hsf : ∀ H : Heap, H = s.heap → W p l e _ s m _ below meth c H [] 0 0 _ _ from hsf _ rfl
  intro H hHe
  have hS : va_S A s.heap H [] := by rw [hHe]; exact hS
  have hP : va_P D vwCl [] H := by rw [hHe]; exact hP
  obtain ⟨hstr, hcs, hsf⟩ := id hsx
  obtain ⟨o1, o2, o3, o4⟩ := hstr.1 0 (by decide)
  refine lv_iload_n hx hb dJ3_checkIndex_8e157_0 rfl (lv_at hl 0 rfl) ?_
  refine lv_if_lt (tgt := 9) hx hb dJ3_checkIndex_8e157_1 (by decide) (fun c_ => absurd c_ (nI_nneg (by omega))) (fun _ => ?_)
  refine lv_iload_n hx hb dJ3_checkIndex_8e157_4 rfl (lv_at hl 0 rfl) ?_
  refine lv_iload_n hx hb dJ3_checkIndex_8e157_5 rfl (lv_at hl 1 rfl) ?_
  refine lv_icmp_lt (tgt := 16) hx hb dJ3_checkIndex_8e157_6 (by decide) (fun _ => ?_) (fun c_ => absurd ((nI_ltI (by omega) h2).mpr h1) c_)
  refine lv_iload_n hx hb dJ3_checkIndex_8e157_16 rfl (lv_at hl 0 rfl) ?_
  exact W.iret (v := (nI x)) hx hb hr (fun t ht hW => ⟨⟨(nI x), (), rfl, hw, by rw [ht]; exact hP, hD⟩, hS.F ht⟩) hS.2.2 dJ3_checkIndex_8e157_17

set_option maxHeartbeats 4000000 in
set_option maxRecDepth 100000 in
theorem mJ3_checkIndex_8e157_r {l : Launch} {D : va_G} {sz aS aV : Nat} {x n q : Nat} {K : Int32 → Prop} (h1 : x < n) (h2 : n < 2 ^ 31) (hw : K (nI x)) : Met l yJ3_checkIndex_8e157 wsJ3_checkIndex_8e157 ({ frames := 0, cells := 0, slots := 0, locals := 0 } : Room) (va_Pc [.int (nI x), .int (nI n), .ref q] (sxP aS aV sz)) (va_Qi (S := Unit) (fun (r : Int32) (_ : Unit) => K r) (fun _ => wpost D (va_A [] sz) []) (va_A [] sz)) 0 0 (va_A [] sz) := by
  refine Met.ofW (cc := cJ3_checkIndex_8e157) (maxL := 3) (ret := (some .int)) (by decide) rfl ?_
  intro p e s m args below meth c s₁ B hml hv
  obtain ⟨rfl, hsz, hsx⟩ := hv
  have hx := B.exec
  have hb := B.bytes
  have hr := B.returns
  have hts := atoms_spec (ws := wsJ3_checkIndex_8e157) B.pre
  have hown : s.vm.findClass RJ3 = some m.cls := findClass_of_methodNamed B.named
  have hlocks := B.notSynchronized
  subst hsz
  have hD : va_D (va_A [] s.heap.size) [] := va_nilD
  generalize hAe : va_A [] s.heap.size = A at hD hsx ⊢
  have hA : ∀ q : Nat, s.heap.size ≤ q → A q := fun q h => by rw [← hAe]; exact Or.inr h
  have hS : va_S A s.heap s.heap [] := va_S.rf
  have hP : va_P D vwCl [] s.heap := va_nilP
  have hl := lv_entry ([.int (nI x), .int (nI n), .ref q]) (n := 3) (Nat.le_of_ble_eq_true rfl)
  rw [lg_entry_eq]
  generalize (lg_sl ([.int (nI x), .int (nI n), .ref q]) ++ List.replicate (3 - (lg_sl ([.int (nI x), .int (nI n), .ref q])).length) Slot.unset).toArray = ls at hl ⊢
  have hl : lv_has ls 3 [(0, .int (nI x)), (1, .int (nI n)), (2, .ref q)] := hl
  suffices hsf : ∀ H : Heap, H = s.heap → W p l e _ s m _ below meth c H [] 0 0 _ _ from hsf _ rfl
  intro H hHe
  have hS : va_S A s.heap H [] := by rw [hHe]; exact hS
  have hP : va_P D vwCl [] H := by rw [hHe]; exact hP
  obtain ⟨hstr, hcs, hsf⟩ := id hsx
  obtain ⟨o1, o2, o3, o4⟩ := hstr.1 0 (by decide)
  refine lv_iload_n hx hb dJ3_checkIndex_8e157_0 rfl (lv_at hl 0 rfl) ?_
  refine lv_if_lt (tgt := 9) hx hb dJ3_checkIndex_8e157_1 (by decide) (fun c_ => absurd c_ (nI_nneg (by omega))) (fun _ => ?_)
  refine lv_iload_n hx hb dJ3_checkIndex_8e157_4 rfl (lv_at hl 0 rfl) ?_
  refine lv_iload_n hx hb dJ3_checkIndex_8e157_5 rfl (lv_at hl 1 rfl) ?_
  refine lv_icmp_lt (tgt := 16) hx hb dJ3_checkIndex_8e157_6 (by decide) (fun _ => ?_) (fun c_ => absurd ((nI_ltI (by omega) h2).mpr h1) c_)
  refine lv_iload_n hx hb dJ3_checkIndex_8e157_16 rfl (lv_at hl 0 rfl) ?_
  exact W.iret (v := (nI x)) hx hb hr (fun t ht hW => ⟨⟨(nI x), (), rfl, hw, by rw [ht]; exact hP, hD⟩, hS.F ht⟩) hS.2.2 dJ3_checkIndex_8e157_17
theorem wJ0_checkIndex_df160_sf : Cond.fieldLink RJ0 1053 "jdk/internal/util/Preconditions" "SIOOBE_FORMATTER" "Ljava/util/function/BiFunction;" ∈ wsJ0_checkIndex_df160 := by decide +kernel
theorem wJ0_checkIndex_df160_ini : Cond.initialized RJ3 ∈ wsJ0_checkIndex_df160 := by decide +kernel
theorem wJ0_checkIndex_df160_ml : Cond.methodLink RJ0 1059 yJ3_checkIndex_8e157 ∈ wsJ0_checkIndex_df160 := by decide +kernel
theorem wJ0_checkIndex_df160_ss : Cond.static yJ3_checkIndex_8e157 ∈ wsJ0_checkIndex_df160 := by decide +kernel
set_option maxHeartbeats 4000000 in
set_option maxRecDepth 100000 in
theorem mJ0_checkIndex_df160 {l : Launch} {D : va_G} {sz aS aV : Nat} {x n : Nat} (h1 : x < n) (h2 : n < 2 ^ 31)  : Met l yJ0_checkIndex_df160 wsJ0_checkIndex_df160 ({ frames := 1, cells := 0, slots := 0, locals := 22 } : Room) (va_Pc [.int (nI x), .int (nI n)] (sxP aS aV sz)) (va_Qv (S := Unit) (fun (_ : Unit) => True) (fun _ => wpost D (va_A [] sz) []) (va_A [] sz)) 0 0 (va_A [] sz) := by
  refine Met.ofW (cc := cJ0_checkIndex_df160) (maxL := 2) (ret := none) (by decide) rfl ?_
  intro p e s m args below meth c s₁ B hml hv
  obtain ⟨rfl, hsz, hsx⟩ := hv
  have hx := B.exec
  have hb := B.bytes
  have hr := B.returns
  have hts := atoms_spec (ws := wsJ0_checkIndex_df160) B.pre
  have hown : s.vm.findClass RJ0 = some m.cls := findClass_of_methodNamed B.named
  have hlocks := B.notSynchronized
  subst hsz
  have hD : va_D (va_A [] s.heap.size) [] := va_nilD
  generalize hAe : va_A [] s.heap.size = A at hD hsx ⊢
  have hA : ∀ q : Nat, s.heap.size ≤ q → A q := fun q h => by rw [← hAe]; exact Or.inr h
  have hS : va_S A s.heap s.heap [] := va_S.rf
  have hP : va_P D vwCl [] s.heap := va_nilP
  have hl := lv_entry ([.int (nI x), .int (nI n)]) (n := 2) (Nat.le_of_ble_eq_true rfl)
  rw [lg_entry_eq]
  generalize (lg_sl ([.int (nI x), .int (nI n)]) ++ List.replicate (2 - (lg_sl ([.int (nI x), .int (nI n)])).length) Slot.unset).toArray = ls at hl ⊢
  have hl : lv_has ls 2 [(0, .int (nI x)), (1, .int (nI n))] := hl
  suffices hsf : ∀ H : Heap, H = s.heap → W p l e _ s m _ below meth c H [] 0 0 _ _ from hsf _ rfl
  intro H hHe
  have hS : va_S A s.heap H [] := by rw [hHe]; exact hS
  have hP : va_P D vwCl [] H := by rw [hHe]; exact hP
  obtain ⟨hstr, hcs, hsf⟩ := id hsx
  obtain ⟨o1, o2, o3, o4⟩ := hstr.1 0 (by decide)
  refine lv_iload_n hx hb dJ0_checkIndex_df160_0 rfl (lv_at hl 0 rfl) ?_
  refine lv_iload_n hx hb dJ0_checkIndex_df160_1 rfl (lv_at hl 1 rfl) ?_
  rcases hsf with hv9 | ⟨q, hv9⟩
  · refine va_gets hx hb hv9 hS hown (hts _ wJ0_checkIndex_df160_sf) (fun _ h9 => h9) dJ0_checkIndex_df160_2 ?_
    refine cl_i (wc := []) (wr := []) hP hD hS hA [] [] rfl rfl (by decide) (by decide) (va_runS (As := [.int (nI x), .int (nI n), .null]) (rest := []) ⟨hx, hb, hml, hown, hts⟩ (mJ3_checkIndex_8e157_n (l := l) (D := D) (sz := H.size) (aS := aS) (aV := aV) (K := fun _ => True) h1 h2 trivial) ⟨callB_of 3 hts ggJ0_checkIndex_df160_J3_checkIndex_8e157 rfl rfl rfl (hts _ wJ0_checkIndex_df160_ini) (hts _ wJ0_checkIndex_df160_ml) (by decide +kernel) ⟨(Nat.le_of_ble_eq_true rfl), (Nat.le_of_ble_eq_true rfl)⟩, hts _ wJ0_checkIndex_df160_ss⟩ (sx_S hsx hS hA) rfl rfl hl.1 rfl (lv_room (Nat.le_of_ble_eq_true rfl)) dJ0_checkIndex_df160_5 ⟨(Nat.le_of_ble_eq_true rfl), (Nat.le_of_ble_eq_true rfl)⟩) (fun r u_ H locs _ hP hD hS => ?_)
    refine lv_pop hx hb dJ0_checkIndex_df160_8 rfl ?_
    exact W.vret hx hb hr (fun t ht hW => ⟨⟨(), rfl, trivial, by rw [ht]; exact hP, hD⟩, hS.F ht⟩) hS.2.2 dJ0_checkIndex_df160_9
  · refine va_gets hx hb hv9 hS hown (hts _ wJ0_checkIndex_df160_sf) (fun _ h9 => h9) dJ0_checkIndex_df160_2 ?_
    refine cl_i (wc := []) (wr := []) hP hD hS hA [] [] rfl rfl (by decide) (by decide) (va_runS (As := [.int (nI x), .int (nI n), .ref q]) (rest := []) ⟨hx, hb, hml, hown, hts⟩ (mJ3_checkIndex_8e157_r (l := l) (D := D) (sz := H.size) (aS := aS) (aV := aV) (K := fun _ => True) h1 h2 trivial) ⟨callB_of 3 hts ggJ0_checkIndex_df160_J3_checkIndex_8e157 rfl rfl rfl (hts _ wJ0_checkIndex_df160_ini) (hts _ wJ0_checkIndex_df160_ml) (by decide +kernel) ⟨(Nat.le_of_ble_eq_true rfl), (Nat.le_of_ble_eq_true rfl)⟩, hts _ wJ0_checkIndex_df160_ss⟩ (sx_S hsx hS hA) rfl rfl hl.1 rfl (lv_room (Nat.le_of_ble_eq_true rfl)) dJ0_checkIndex_df160_5 ⟨(Nat.le_of_ble_eq_true rfl), (Nat.le_of_ble_eq_true rfl)⟩) (fun r u_ H locs _ hP hD hS => ?_)
    refine lv_pop hx hb dJ0_checkIndex_df160_8 rfl ?_
    exact W.vret hx hb hr (fun t ht hW => ⟨⟨(), rfl, trivial, by rw [ht]; exact hP, hD⟩, hS.F ht⟩) hS.2.2 dJ0_checkIndex_df160_9
theorem wJ1_charAt_3b067_ini : Cond.initialized RJ0 ∈ wsJ1_charAt_3b067 := by decide +kernel
theorem wJ1_charAt_3b067_ml : Cond.methodLink RJ1 9 yJ0_checkIndex_df160 ∈ wsJ1_charAt_3b067 := by decide +kernel
theorem wJ1_charAt_3b067_ss : Cond.static yJ0_checkIndex_df160 ∈ wsJ1_charAt_3b067 := by decide +kernel
set_option maxHeartbeats 4000000 in
set_option maxRecDepth 100000 in
theorem mJ1_charAt_3b067 {l : Launch} {D : va_G} {sz aS aV : Nat} {x : Nat} {K : Int32 → Prop} (hxl : x < 43) (hw : K (jsB.getD x 0 &&& 255)) : Met l yJ1_charAt_3b067 wsJ1_charAt_3b067 ({ frames := 2, cells := 0, slots := 0, locals := 43 } : Room) (va_Pc [.ref aV, .int (nI x)] (sxP aS aV sz)) (va_Qi (S := Unit) (fun (r : Int32) (_ : Unit) => K r) (fun _ => wpost D (va_A [] sz) []) (va_A [] sz)) 0 0 (va_A [] sz) := by
  refine Met.ofW (cc := cJ1_charAt_3b067) (maxL := 2) (ret := (some .char)) (by decide) rfl ?_
  intro p e s m args below meth c s₁ B hml hv
  obtain ⟨rfl, hsz, hsx⟩ := hv
  have hx := B.exec
  have hb := B.bytes
  have hr := B.returns
  have hts := atoms_spec (ws := wsJ1_charAt_3b067) B.pre
  have hown : s.vm.findClass RJ1 = some m.cls := findClass_of_methodNamed B.named
  have hlocks := B.notSynchronized
  subst hsz
  have hD : va_D (va_A [] s.heap.size) [] := va_nilD
  generalize hAe : va_A [] s.heap.size = A at hD hsx ⊢
  have hA : ∀ q : Nat, s.heap.size ≤ q → A q := fun q h => by rw [← hAe]; exact Or.inr h
  have hS : va_S A s.heap s.heap [] := va_S.rf
  have hP : va_P D vwCl [] s.heap := va_nilP
  have hl := lv_entry ([.ref aV, .int (nI x)]) (n := 2) (Nat.le_of_ble_eq_true rfl)
  rw [lg_entry_eq]
  generalize (lg_sl ([.ref aV, .int (nI x)]) ++ List.replicate (2 - (lg_sl ([.ref aV, .int (nI x)])).length) Slot.unset).toArray = ls at hl ⊢
  have hl : lv_has ls 2 [(0, .ref aV), (1, .int (nI x))] := hl
  suffices hsf : ∀ H : Heap, H = s.heap → W p l e _ s m _ below meth c H [] 0 0 _ _ from hsf _ rfl
  intro H hHe
  have hS : va_S A s.heap H [] := by rw [hHe]; exact hS
  have hP : va_P D vwCl [] H := by rw [hHe]; exact hP
  obtain ⟨hstr, hcs, hsf⟩ := id hsx
  obtain ⟨o1, o2, o3, o4⟩ := hstr.1 0 (by decide)
  refine lv_iload_n hx hb dJ1_charAt_3b067_0 rfl (lv_at hl 1 rfl) ?_
  refine lv_aload_n hx hb dJ1_charAt_3b067_1 rfl (lv_at hl 0 rfl) ?_
  refine va_tlen (v := nI 43) hx hb o4 hS rfl dJ1_charAt_3b067_2 ?_
  refine cl_v (wc := []) (wr := []) hP hD hS hA [] [] rfl rfl (by decide) (by decide) (va_runS (As := [.int (nI x), .int (nI 43)]) (rest := []) ⟨hx, hb, hml, hown, hts⟩ (mJ0_checkIndex_df160 (l := l) (D := D) (sz := H.size) (aS := aS) (aV := aV) hxl (by decide)) ⟨callB_of 2 hts ggJ1_charAt_3b067_J0_checkIndex_df160 rfl rfl rfl (hts _ wJ1_charAt_3b067_ini) (hts _ wJ1_charAt_3b067_ml) (by decide +kernel) ⟨(Nat.le_of_ble_eq_true rfl), (Nat.le_of_ble_eq_true rfl)⟩, hts _ wJ1_charAt_3b067_ss⟩ (sx_S hsx hS hA) rfl rfl hl.1 rfl (lv_room (Nat.le_of_ble_eq_true rfl)) dJ1_charAt_3b067_3 ⟨(Nat.le_of_ble_eq_true rfl), (Nat.le_of_ble_eq_true rfl)⟩) (fun u_ H locs _ hP hD hS => ?_)
  refine lv_aload_n hx hb dJ1_charAt_3b067_6 rfl (lv_at hl 0 rfl) ?_
  refine lv_iload_n hx hb dJ1_charAt_3b067_7 rfl (lv_at hl 1 rfl) ?_
  refine va_tb (v := .int (jsB.getD x 0)) hx hb o4 hS (vp_in_nI hxl (by decide)) (by rw [nI_clamp (by omega)]; rfl) dJ1_charAt_3b067_8 ?_
  refine lv_sipush (v := 255) hx hb dJ1_charAt_3b067_9 (by decide) ?_
  refine lv_iand hx hb dJ1_charAt_3b067_12 ?_
  refine lv_i2c (v := (jsB.getD x 0 &&& 255)) hx hb dJ1_charAt_3b067_13 (sc_c2 _) ?_
  exact W.zret (ty := .char) (v := (jsB.getD x 0 &&& 255)) hx hb hr (sc_nar _) (fun t ht hW => ⟨⟨(jsB.getD x 0 &&& 255), (), rfl, hw, by rw [ht]; exact hP, hD⟩, hS.F ht⟩) hS.2.2 dJ1_charAt_3b067_14
theorem wJ0_charAt_5068e_va : Cond.fieldLink RJ0 9 "java/lang/String" "value" "[B" ∈ wsJ0_charAt_5068e := by decide +kernel
theorem wJ0_charAt_5068e_ini : Cond.initialized RJ1 ∈ wsJ0_charAt_5068e := by decide +kernel
theorem wJ0_charAt_5068e_ml : Cond.methodLink RJ0 495 yJ1_charAt_3b067 ∈ wsJ0_charAt_5068e := by decide +kernel
theorem wJ0_charAt_5068e_ss : Cond.static yJ1_charAt_3b067 ∈ wsJ0_charAt_5068e := by decide +kernel
set_option maxHeartbeats 4000000 in
set_option maxRecDepth 100000 in
theorem mJ0_charAt_5068e {l : Launch} {D : va_G} {sz aS aV : Nat} {x : Nat} {K : Int32 → Prop} (hxl : x < 43) (hw : K (jsB.getD x 0 &&& 255)) : Met l yJ0_charAt_5068e wsJ0_charAt_5068e ({ frames := 3, cells := 0, slots := 0, locals := 64 } : Room) (va_Pc [.ref aS, .int (nI x)] (sxP aS aV sz)) (va_Qi (S := Unit) (fun (r : Int32) (_ : Unit) => K r) (fun _ => wpost D (va_A [] sz) []) (va_A [] sz)) 0 0 (va_A [] sz) := by
  refine Met.ofW (cc := cJ0_charAt_5068e) (maxL := 2) (ret := (some .char)) (by decide) rfl ?_
  intro p e s m args below meth c s₁ B hml hv
  obtain ⟨rfl, hsz, hsx⟩ := hv
  have hx := B.exec
  have hb := B.bytes
  have hr := B.returns
  have hts := atoms_spec (ws := wsJ0_charAt_5068e) B.pre
  have hown : s.vm.findClass RJ0 = some m.cls := findClass_of_methodNamed B.named
  have hlocks := B.notSynchronized
  subst hsz
  have hD : va_D (va_A [] s.heap.size) [] := va_nilD
  generalize hAe : va_A [] s.heap.size = A at hD hsx ⊢
  have hA : ∀ q : Nat, s.heap.size ≤ q → A q := fun q h => by rw [← hAe]; exact Or.inr h
  have hS : va_S A s.heap s.heap [] := va_S.rf
  have hP : va_P D vwCl [] s.heap := va_nilP
  have hl := lv_entry ([.ref aS, .int (nI x)]) (n := 2) (Nat.le_of_ble_eq_true rfl)
  rw [lg_entry_eq]
  generalize (lg_sl ([.ref aS, .int (nI x)]) ++ List.replicate (2 - (lg_sl ([.ref aS, .int (nI x)])).length) Slot.unset).toArray = ls at hl ⊢
  have hl : lv_has ls 2 [(0, .ref aS), (1, .int (nI x))] := hl
  suffices hsf : ∀ H : Heap, H = s.heap → W p l e _ s m _ below meth c H [] 0 0 _ _ from hsf _ rfl
  intro H hHe
  have hS : va_S A s.heap H [] := by rw [hHe]; exact hS
  have hP : va_P D vwCl [] H := by rw [hHe]; exact hP
  obtain ⟨hstr, hcs, hsf⟩ := id hsx
  obtain ⟨o1, o2, o3, o4⟩ := hstr.1 0 (by decide)
  refine lv_aload_n hx hb dJ0_charAt_5068e_0 rfl (lv_at hl 0 rfl) ?_
  refine cl_i (wc := []) (wr := []) hP hD hS hA [] [] rfl rfl (by decide) (by decide) (va_runV (As := []) (rest := []) ⟨hx, hb, hml, hown, hts⟩ (mJ0_isLatin1_aae02 (l := l) (D := D) (sz := H.size) (aS := aS) (aV := aV) (K := fun r => r = 1) rfl) (cwV 0 hts gJ0_charAt_5068e_J0_isLatin1_aae02 rfl rfl rfl (by decide +kernel) ⟨(Nat.le_of_ble_eq_true rfl), (Nat.le_of_ble_eq_true rfl)⟩) (sx_V hsx hS hA) rfl rfl hl.1 rfl (lv_room (Nat.le_of_ble_eq_true rfl)) dJ0_charAt_5068e_1 ⟨(Nat.le_of_ble_eq_true rfl), (Nat.le_of_ble_eq_true rfl)⟩) (fun r u_ H locs hr1 hP hD hS => ?_)
  subst hr1
  refine lv_if_eq (tgt := 16) hx hb dJ0_charAt_5068e_4 (by decide) (fun c_ => absurd c_ (by decide)) (fun _ => ?_)
  refine lv_aload_n hx hb dJ0_charAt_5068e_7 rfl (lv_at hl 0 rfl) ?_
  refine vk_getf hx hb o3 hS hown (hts _ wJ0_charAt_5068e_va) (fun _ h9 => h9) dJ0_charAt_5068e_8 ?_
  refine lv_iload_n hx hb dJ0_charAt_5068e_11 rfl (lv_at hl 1 rfl) ?_
  refine cl_i (wc := []) (wr := []) hP hD hS hA [] [] rfl rfl (by decide) (by decide) (va_runS (As := [.ref aV, .int (nI x)]) (rest := []) ⟨hx, hb, hml, hown, hts⟩ (mJ1_charAt_3b067 (l := l) (D := D) (sz := H.size) (aS := aS) (aV := aV) (K := fun r => r = (jsB.getD x 0 &&& 255)) hxl rfl) ⟨callB_of 2 hts ggJ0_charAt_5068e_J1_charAt_3b067 rfl rfl rfl (hts _ wJ0_charAt_5068e_ini) (hts _ wJ0_charAt_5068e_ml) (by decide +kernel) ⟨(Nat.le_of_ble_eq_true rfl), (Nat.le_of_ble_eq_true rfl)⟩, hts _ wJ0_charAt_5068e_ss⟩ (sx_S hsx hS hA) rfl rfl hl.1 rfl (lv_room (Nat.le_of_ble_eq_true rfl)) dJ0_charAt_5068e_12 ⟨(Nat.le_of_ble_eq_true rfl), (Nat.le_of_ble_eq_true rfl)⟩) (fun r u_ H locs hr2 hP hD hS => ?_)
  subst hr2
  exact W.zret (ty := .char) (v := (jsB.getD x 0 &&& 255)) hx hb hr (sc_nar _) (fun t ht hW => ⟨⟨(jsB.getD x 0 &&& 255), (), rfl, hw, by rw [ht]; exact hP, hD⟩, hS.F ht⟩) hS.2.2 dJ0_charAt_5068e_15
theorem wJ0_length_8abf5_va : Cond.fieldLink RJ0 9 "java/lang/String" "value" "[B" ∈ wsJ0_length_8abf5 := by decide +kernel
set_option maxHeartbeats 4000000 in
set_option maxRecDepth 100000 in
theorem mJ0_length_8abf5 {l : Launch} {D : va_G} {sz aS aV : Nat}  {K : Int32 → Prop}  (hw : K (nI 43)) : Met l yJ0_length_8abf5 wsJ0_length_8abf5 ({ frames := 1, cells := 0, slots := 0, locals := 20 } : Room) (va_Pc [.ref aS] (sxP aS aV sz)) (va_Qi (S := Unit) (fun (r : Int32) (_ : Unit) => K r) (fun _ => wpost D (va_A [] sz) []) (va_A [] sz)) 0 0 (va_A [] sz) := by
  refine Met.ofW (cc := cJ0_length_8abf5) (maxL := 1) (ret := (some .int)) (by decide) rfl ?_
  intro p e s m args below meth c s₁ B hml hv
  obtain ⟨rfl, hsz, hsx⟩ := hv
  have hx := B.exec
  have hb := B.bytes
  have hr := B.returns
  have hts := atoms_spec (ws := wsJ0_length_8abf5) B.pre
  have hown : s.vm.findClass RJ0 = some m.cls := findClass_of_methodNamed B.named
  have hlocks := B.notSynchronized
  subst hsz
  have hD : va_D (va_A [] s.heap.size) [] := va_nilD
  generalize hAe : va_A [] s.heap.size = A at hD hsx ⊢
  have hA : ∀ q : Nat, s.heap.size ≤ q → A q := fun q h => by rw [← hAe]; exact Or.inr h
  have hS : va_S A s.heap s.heap [] := va_S.rf
  have hP : va_P D vwCl [] s.heap := va_nilP
  have hl := lv_entry ([.ref aS]) (n := 1) (Nat.le_of_ble_eq_true rfl)
  rw [lg_entry_eq]
  generalize (lg_sl ([.ref aS]) ++ List.replicate (1 - (lg_sl ([.ref aS])).length) Slot.unset).toArray = ls at hl ⊢
  have hl : lv_has ls 1 [(0, .ref aS)] := hl
  suffices hsf : ∀ H : Heap, H = s.heap → W p l e _ s m _ below meth c H [] 0 0 _ _ from hsf _ rfl
  intro H hHe
  have hS : va_S A s.heap H [] := by rw [hHe]; exact hS
  have hP : va_P D vwCl [] H := by rw [hHe]; exact hP
  obtain ⟨hstr, hcs, hsf⟩ := id hsx
  obtain ⟨o1, o2, o3, o4⟩ := hstr.1 0 (by decide)
  refine lv_aload_n hx hb dJ0_length_8abf5_0 rfl (lv_at hl 0 rfl) ?_
  refine vk_getf hx hb o3 hS hown (hts _ wJ0_length_8abf5_va) (fun _ h9 => h9) dJ0_length_8abf5_1 ?_
  refine va_tlen (v := nI 43) hx hb o4 hS rfl dJ0_length_8abf5_4 ?_
  refine lv_aload_n hx hb dJ0_length_8abf5_5 rfl (lv_at hl 0 rfl) ?_
  refine cl_i (wc := []) (wr := []) hP hD hS hA [] [] rfl rfl (by decide) (by decide) (va_runV (As := []) (rest := [.int (nI 43)]) ⟨hx, hb, hml, hown, hts⟩ (mJ0_coder_7d493 (l := l) (D := D) (sz := H.size) (aS := aS) (aV := aV) (K := fun r => r = 0) rfl) (cwV 0 hts gJ0_length_8abf5_J0_coder_7d493 rfl rfl rfl (by decide +kernel) ⟨(Nat.le_of_ble_eq_true rfl), (Nat.le_of_ble_eq_true rfl)⟩) (sx_V hsx hS hA) rfl rfl hl.1 rfl (lv_room (Nat.le_of_ble_eq_true rfl)) dJ0_length_8abf5_6 ⟨(Nat.le_of_ble_eq_true rfl), (Nat.le_of_ble_eq_true rfl)⟩) (fun r u_ H locs hr1 hP hD hS => ?_)
  subst hr1
  refine lv_ishr hx hb dJ0_length_8abf5_9 ?_
  rw [sc_shr0 (n := 43) (by decide)]
  exact W.iret (v := (nI 43)) hx hb hr (fun t ht hW => ⟨⟨(nI 43), (), rfl, hw, by rw [ht]; exact hP, hD⟩, hS.F ht⟩) hS.2.2 dJ0_length_8abf5_10
