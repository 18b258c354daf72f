theorem fX7_hasPlace_9 : Cond.fieldLink RX7 9 "SkinInRafters$Town" "places" "I" ∈ wsX7_hasPlace := by decide +kernel
theorem iX7_hasPlace_X7 : ∀ w ∈ wsX70, w ∈ wsX7_hasPlace := by decide +kernel
def pX7_hasPlace (t_places : Int32) (x1 : Int32) (K : Int32 → Prop) : Prop :=
  (x1 < 0 → (K 0)) ∧ (¬ (x1 < 0) → ((t_places ≤ x1 → (K 0)) ∧ (¬ (t_places ≤ x1) → (K 1))))
set_option maxHeartbeats 4000000 in
set_option maxRecDepth 100000 in
theorem mX7_hasPlace {l : Launch} {D : va_G} {tc : Nat → ClassId} {sz : Nat} {a_t a_t_house a_t_view a_t_girth a_t_kind a_t_hiding : Nat} {t_places : Int32} {t_skins : Int32} {t_smoke : Int32} {t_tide : Int32} {x1 : Int32} {K : Int32 → Prop} (hw : pX7_hasPlace t_places x1 K) : Met l yX7_hasPlace wsX7_hasPlace ({ frames := 0, cells := 0, slots := 0, locals := 0 } : Room) (va_Pc [.ref a_t, .int x1] (wpre D tc [(a_t, .inr (7, [.int t_places, .ref a_t_house, .ref a_t_view, .int t_skins, .ref a_t_girth, .ref a_t_kind, .int t_smoke, .int t_tide, .ref a_t_hiding]))] sz)) (va_Qi (S := Unit) (fun (r : Int32) (u : Unit) => K r ) (fun u => wpost D (va_A [(a_t, .inr (7, [.int t_places, .ref a_t_house, .ref a_t_view, .int t_skins, .ref a_t_girth, .ref a_t_kind, .int t_smoke, .int t_tide, .ref a_t_hiding]))] sz) [(a_t, .inr (7, [.int t_places, .ref a_t_house, .ref a_t_view, .int t_skins, .ref a_t_girth, .ref a_t_kind, .int t_smoke, .int t_tide, .ref a_t_hiding]))]) (va_A [(a_t, .inr (7, [.int t_places, .ref a_t_house, .ref a_t_view, .int t_skins, .ref a_t_girth, .ref a_t_kind, .int t_smoke, .int t_tide, .ref a_t_hiding]))] sz)) 0 0 (va_A [(a_t, .inr (7, [.int t_places, .ref a_t_house, .ref a_t_view, .int t_skins, .ref a_t_girth, .ref a_t_kind, .int t_smoke, .int t_tide, .ref a_t_hiding]))] sz) := by
  refine Met.ofW (cc := cX7_hasPlace) (maxL := 2) (ret := (some .boolean)) (by decide) rfl ?_
  intro p e s m args below meth c s₁ B hml hv
  obtain ⟨rfl, hsz, hP, hK, hD0⟩ := hv
  have hx := B.exec
  have hb := B.bytes
  have hr := B.returns
  have hts := atoms_spec (ws := wsX7_hasPlace) B.pre
  have hown : s.vm.findClass RX7 = some m.cls := findClass_of_methodNamed B.named
  have hlocks := B.notSynchronized
  subst hsz
  have hD := hD0.self (sz := s.heap.size)
  generalize hAe : va_A [(a_t, .inr (7, [.int t_places, .ref a_t_house, .ref a_t_view, .int t_skins, .ref a_t_girth, .ref a_t_kind, .int t_smoke, .int t_tide, .ref a_t_hiding]))] s.heap.size = A at hD ⊢
  have hA : ∀ q : Nat, s.heap.size ≤ q → A q := fun q h => by rw [← hAe]; exact Or.inr h
  have C0 : cx p s m _ c RX7 cX7_hasPlace 2 wsX7_hasPlace D tc A := ⟨hx, hb, hml, hown, hts, hK, hA⟩
  have hS : va_S A s.heap s.heap [] := va_S.rf
  have hP : va_P D vwCl [(a_t, .inr (7, [.int t_places, .ref a_t_house, .ref a_t_view, .int t_skins, .ref a_t_girth, .ref a_t_kind, .int t_smoke, .int t_tide, .ref a_t_hiding]))] s.heap := hP
  have hl := lv_entry ([.ref a_t, .int x1]) (n := 2) (Nat.le_of_ble_eq_true rfl)
  rw [lg_entry_eq]
  generalize (lg_sl ([.ref a_t, .int x1]) ++ List.replicate (2 - (lg_sl ([.ref a_t, .int x1])).length) Slot.unset).toArray = ls at hl ⊢
  have hl : lv_has ls 2 [(0, .ref a_t), (1, .int x1)] := hl
  suffices hsf : ∀ H : Heap, H = s.heap → W p l e _ s m _ below meth c H [] 0 0 _ _ from hsf _ rfl
  intro H hHe
  have hS : va_S A s.heap H [] := by rw [hHe]; exact hS
  have hP : va_P D vwCl [(a_t, .inr (7, [.int t_places, .ref a_t_house, .ref a_t_view, .int t_skins, .ref a_t_girth, .ref a_t_kind, .int t_smoke, .int t_tide, .ref a_t_hiding]))] H := by rw [hHe]; exact hP
  unfold pX7_hasPlace at hw
  refine lv_iload_n hx hb dX7_hasPlace_0 rfl (lv_at hl 1 rfl) ?_
  refine lv_if_lt (tgt := 16) hx hb dX7_hasPlace_1 (by decide) (fun c_1 => ?_) (fun c_1 => ?_)
  · replace hw := hw.1 c_1
    refine lv_iconst (v := 0) hx hb dX7_hasPlace_16 (by decide) ?_
    have hP9 := hP.sub (ws' := [(a_t, .inr (7, [.int t_places, .ref a_t_house, .ref a_t_view, .int t_skins, .ref a_t_girth, .ref a_t_kind, .int t_smoke, .int t_tide, .ref a_t_hiding]))]) [0] rfl
    have hD9 := hD.sub (ws' := [(a_t, .inr (7, [.int t_places, .ref a_t_house, .ref a_t_view, .int t_skins, .ref a_t_girth, .ref a_t_kind, .int t_smoke, .int t_tide, .ref a_t_hiding]))]) [0] (by decide) rfl
    exact W.zret (ty := .boolean) (v := 0) hx hb hr nbool_0 (fun t ht hW => ⟨⟨0, (), rfl, hw, by rw [ht]; exact hP9, hD9⟩, hS.F ht⟩) hS.2.2 dX7_hasPlace_17
  · replace hw := hw.2 c_1
    refine lv_iload_n hx hb dX7_hasPlace_4 rfl (lv_at hl 1 rfl) ?_
    refine lv_aload_n hx hb dX7_hasPlace_5 rfl (lv_at hl 0 rfl) ?_
    refine va_get (D := D) (ci := 7) (v := .int t_places) (C := RX7) (T := TX7) (N := 9) hx hb hts iX7_hasPlace_X7 hown hK.1 hP 0 rfl rfl 0 (by decide) (hts _ fX7_hasPlace_9) (fun _ h9 => h9) rfl dX7_hasPlace_6 ?_
    refine lv_icmp_ge (tgt := 16) hx hb dX7_hasPlace_9 (by decide) (fun c_2 => ?_) (fun c_2 => ?_)
    · replace hw := hw.1 c_2
      refine lv_iconst (v := 0) hx hb dX7_hasPlace_16 (by decide) ?_
      have hP9 := hP.sub (ws' := [(a_t, .inr (7, [.int t_places, .ref a_t_house, .ref a_t_view, .int t_skins, .ref a_t_girth, .ref a_t_kind, .int t_smoke, .int t_tide, .ref a_t_hiding]))]) [0] rfl
      have hD9 := hD.sub (ws' := [(a_t, .inr (7, [.int t_places, .ref a_t_house, .ref a_t_view, .int t_skins, .ref a_t_girth, .ref a_t_kind, .int t_smoke, .int t_tide, .ref a_t_hiding]))]) [0] (by decide) rfl
      exact W.zret (ty := .boolean) (v := 0) hx hb hr nbool_0 (fun t ht hW => ⟨⟨0, (), rfl, hw, by rw [ht]; exact hP9, hD9⟩, hS.F ht⟩) hS.2.2 dX7_hasPlace_17
    · replace hw := hw.2 c_2
      refine lv_iconst (v := 1) hx hb dX7_hasPlace_12 (by decide) ?_
      refine lv_goto (tgt := 17) hx hb dX7_hasPlace_13 (by decide) ?_
      have hP9 := hP.sub (ws' := [(a_t, .inr (7, [.int t_places, .ref a_t_house, .ref a_t_view, .int t_skins, .ref a_t_girth, .ref a_t_kind, .int t_smoke, .int t_tide, .ref a_t_hiding]))]) [0] rfl
      have hD9 := hD.sub (ws' := [(a_t, .inr (7, [.int t_places, .ref a_t_house, .ref a_t_view, .int t_skins, .ref a_t_girth, .ref a_t_kind, .int t_smoke, .int t_tide, .ref a_t_hiding]))]) [0] (by decide) rfl
      exact W.zret (ty := .boolean) (v := 1) hx hb hr nbool_1 (fun t ht hW => ⟨⟨1, (), rfl, hw, by rw [ht]; exact hP9, hD9⟩, hS.F ht⟩) hS.2.2 dX7_hasPlace_17

theorem fX7_hasSkin_22 : Cond.fieldLink RX7 22 "SkinInRafters$Town" "skins" "I" ∈ wsX7_hasSkin := by decide +kernel
theorem iX7_hasSkin_X7 : ∀ w ∈ wsX70, w ∈ wsX7_hasSkin := by decide +kernel
def pX7_hasSkin (t_skins : Int32) (x1 : Int32) (K : Int32 → Prop) : Prop :=
  (x1 < 0 → (K 0)) ∧ (¬ (x1 < 0) → ((t_skins ≤ x1 → (K 0)) ∧ (¬ (t_skins ≤ x1) → (K 1))))
set_option maxHeartbeats 4000000 in
set_option maxRecDepth 100000 in
theorem mX7_hasSkin {l : Launch} {D : va_G} {tc : Nat → ClassId} {sz : Nat} {a_t a_t_house a_t_view a_t_girth a_t_kind a_t_hiding : Nat} {t_places : Int32} {t_skins : Int32} {t_smoke : Int32} {t_tide : Int32} {x1 : Int32} {K : Int32 → Prop} (hw : pX7_hasSkin t_skins x1 K) : Met l yX7_hasSkin wsX7_hasSkin ({ frames := 0, cells := 0, slots := 0, locals := 0 } : Room) (va_Pc [.ref a_t, .int x1] (wpre D tc [(a_t, .inr (7, [.int t_places, .ref a_t_house, .ref a_t_view, .int t_skins, .ref a_t_girth, .ref a_t_kind, .int t_smoke, .int t_tide, .ref a_t_hiding]))] sz)) (va_Qi (S := Unit) (fun (r : Int32) (u : Unit) => K r ) (fun u => wpost D (va_A [(a_t, .inr (7, [.int t_places, .ref a_t_house, .ref a_t_view, .int t_skins, .ref a_t_girth, .ref a_t_kind, .int t_smoke, .int t_tide, .ref a_t_hiding]))] sz) [(a_t, .inr (7, [.int t_places, .ref a_t_house, .ref a_t_view, .int t_skins, .ref a_t_girth, .ref a_t_kind, .int t_smoke, .int t_tide, .ref a_t_hiding]))]) (va_A [(a_t, .inr (7, [.int t_places, .ref a_t_house, .ref a_t_view, .int t_skins, .ref a_t_girth, .ref a_t_kind, .int t_smoke, .int t_tide, .ref a_t_hiding]))] sz)) 0 0 (va_A [(a_t, .inr (7, [.int t_places, .ref a_t_house, .ref a_t_view, .int t_skins, .ref a_t_girth, .ref a_t_kind, .int t_smoke, .int t_tide, .ref a_t_hiding]))] sz) := by
  refine Met.ofW (cc := cX7_hasSkin) (maxL := 2) (ret := (some .boolean)) (by decide) rfl ?_
  intro p e s m args below meth c s₁ B hml hv
  obtain ⟨rfl, hsz, hP, hK, hD0⟩ := hv
  have hx := B.exec
  have hb := B.bytes
  have hr := B.returns
  have hts := atoms_spec (ws := wsX7_hasSkin) B.pre
  have hown : s.vm.findClass RX7 = some m.cls := findClass_of_methodNamed B.named
  have hlocks := B.notSynchronized
  subst hsz
  have hD := hD0.self (sz := s.heap.size)
  generalize hAe : va_A [(a_t, .inr (7, [.int t_places, .ref a_t_house, .ref a_t_view, .int t_skins, .ref a_t_girth, .ref a_t_kind, .int t_smoke, .int t_tide, .ref a_t_hiding]))] s.heap.size = A at hD ⊢
  have hA : ∀ q : Nat, s.heap.size ≤ q → A q := fun q h => by rw [← hAe]; exact Or.inr h
  have C0 : cx p s m _ c RX7 cX7_hasSkin 2 wsX7_hasSkin D tc A := ⟨hx, hb, hml, hown, hts, hK, hA⟩
  have hS : va_S A s.heap s.heap [] := va_S.rf
  have hP : va_P D vwCl [(a_t, .inr (7, [.int t_places, .ref a_t_house, .ref a_t_view, .int t_skins, .ref a_t_girth, .ref a_t_kind, .int t_smoke, .int t_tide, .ref a_t_hiding]))] s.heap := hP
  have hl := lv_entry ([.ref a_t, .int x1]) (n := 2) (Nat.le_of_ble_eq_true rfl)
  rw [lg_entry_eq]
  generalize (lg_sl ([.ref a_t, .int x1]) ++ List.replicate (2 - (lg_sl ([.ref a_t, .int x1])).length) Slot.unset).toArray = ls at hl ⊢
  have hl : lv_has ls 2 [(0, .ref a_t), (1, .int x1)] := hl
  suffices hsf : ∀ H : Heap, H = s.heap → W p l e _ s m _ below meth c H [] 0 0 _ _ from hsf _ rfl
  intro H hHe
  have hS : va_S A s.heap H [] := by rw [hHe]; exact hS
  have hP : va_P D vwCl [(a_t, .inr (7, [.int t_places, .ref a_t_house, .ref a_t_view, .int t_skins, .ref a_t_girth, .ref a_t_kind, .int t_smoke, .int t_tide, .ref a_t_hiding]))] H := by rw [hHe]; exact hP
  unfold pX7_hasSkin at hw
  refine lv_iload_n hx hb dX7_hasSkin_0 rfl (lv_at hl 1 rfl) ?_
  refine lv_if_lt (tgt := 16) hx hb dX7_hasSkin_1 (by decide) (fun c_1 => ?_) (fun c_1 => ?_)
  · replace hw := hw.1 c_1
    refine lv_iconst (v := 0) hx hb dX7_hasSkin_16 (by decide) ?_
    have hP9 := hP.sub (ws' := [(a_t, .inr (7, [.int t_places, .ref a_t_house, .ref a_t_view, .int t_skins, .ref a_t_girth, .ref a_t_kind, .int t_smoke, .int t_tide, .ref a_t_hiding]))]) [0] rfl
    have hD9 := hD.sub (ws' := [(a_t, .inr (7, [.int t_places, .ref a_t_house, .ref a_t_view, .int t_skins, .ref a_t_girth, .ref a_t_kind, .int t_smoke, .int t_tide, .ref a_t_hiding]))]) [0] (by decide) rfl
    exact W.zret (ty := .boolean) (v := 0) hx hb hr nbool_0 (fun t ht hW => ⟨⟨0, (), rfl, hw, by rw [ht]; exact hP9, hD9⟩, hS.F ht⟩) hS.2.2 dX7_hasSkin_17
  · replace hw := hw.2 c_1
    refine lv_iload_n hx hb dX7_hasSkin_4 rfl (lv_at hl 1 rfl) ?_
    refine lv_aload_n hx hb dX7_hasSkin_5 rfl (lv_at hl 0 rfl) ?_
    refine va_get (D := D) (ci := 7) (v := .int t_skins) (C := RX7) (T := TX7) (N := 9) hx hb hts iX7_hasSkin_X7 hown hK.1 hP 0 rfl rfl 3 (by decide) (hts _ fX7_hasSkin_22) (fun _ h9 => h9) rfl dX7_hasSkin_6 ?_
    refine lv_icmp_ge (tgt := 16) hx hb dX7_hasSkin_9 (by decide) (fun c_2 => ?_) (fun c_2 => ?_)
    · replace hw := hw.1 c_2
      refine lv_iconst (v := 0) hx hb dX7_hasSkin_16 (by decide) ?_
      have hP9 := hP.sub (ws' := [(a_t, .inr (7, [.int t_places, .ref a_t_house, .ref a_t_view, .int t_skins, .ref a_t_girth, .ref a_t_kind, .int t_smoke, .int t_tide, .ref a_t_hiding]))]) [0] rfl
      have hD9 := hD.sub (ws' := [(a_t, .inr (7, [.int t_places, .ref a_t_house, .ref a_t_view, .int t_skins, .ref a_t_girth, .ref a_t_kind, .int t_smoke, .int t_tide, .ref a_t_hiding]))]) [0] (by decide) rfl
      exact W.zret (ty := .boolean) (v := 0) hx hb hr nbool_0 (fun t ht hW => ⟨⟨0, (), rfl, hw, by rw [ht]; exact hP9, hD9⟩, hS.F ht⟩) hS.2.2 dX7_hasSkin_17
    · replace hw := hw.2 c_2
      refine lv_iconst (v := 1) hx hb dX7_hasSkin_12 (by decide) ?_
      refine lv_goto (tgt := 17) hx hb dX7_hasSkin_13 (by decide) ?_
      have hP9 := hP.sub (ws' := [(a_t, .inr (7, [.int t_places, .ref a_t_house, .ref a_t_view, .int t_skins, .ref a_t_girth, .ref a_t_kind, .int t_smoke, .int t_tide, .ref a_t_hiding]))]) [0] rfl
      have hD9 := hD.sub (ws' := [(a_t, .inr (7, [.int t_places, .ref a_t_house, .ref a_t_view, .int t_skins, .ref a_t_girth, .ref a_t_kind, .int t_smoke, .int t_tide, .ref a_t_hiding]))]) [0] (by decide) rfl
      exact W.zret (ty := .boolean) (v := 1) hx hb hr nbool_1 (fun t ht hW => ⟨⟨1, (), rfl, hw, by rw [ht]; exact hP9, hD9⟩, hS.F ht⟩) hS.2.2 dX7_hasSkin_17

theorem fX7_isIn_15 : Cond.fieldLink RX7 15 "SkinInRafters$Town" "house" "[I" ∈ wsX7_isIn := by decide +kernel
theorem iX7_isIn_X7 : ∀ w ∈ wsX70, w ∈ wsX7_isIn := by decide +kernel
def pX7_isIn (f_t_house : Nat → Int32) (x1 : Int32) (x2 : Int32) (K : Int32 → Prop) : Prop :=
  (x2 = (-1) → (K 1)) ∧ (¬ (x2 = (-1)) → (vp_in x1 9 ∧ ((¬ (f_t_house x1.toNatClampNeg) = x2 → (K 0)) ∧ ((f_t_house x1.toNatClampNeg) = x2 → (K 1)))))
set_option maxHeartbeats 4000000 in
set_option maxRecDepth 100000 in
theorem mX7_isIn {l : Launch} {D : va_G} {tc : Nat → ClassId} {sz : Nat} {a_t a_t_house a_t_view a_t_girth a_t_kind a_t_hiding : Nat} {t_places : Int32} {t_skins : Int32} {t_smoke : Int32} {t_tide : Int32} {f_t_house : Nat → Int32} {x1 : Int32} {x2 : Int32} {K : Int32 → Prop} (hw : pX7_isIn f_t_house x1 x2 K) : Met l yX7_isIn wsX7_isIn ({ frames := 0, cells := 0, slots := 0, locals := 0 } : Room) (va_Pc [.ref a_t, .int x1, .int x2] (wpre D tc [(a_t, .inr (7, [.int t_places, .ref a_t_house, .ref a_t_view, .int t_skins, .ref a_t_girth, .ref a_t_kind, .int t_smoke, .int t_tide, .ref a_t_hiding])), (a_t_house, .inl (tc 0, 9, .inl f_t_house))] sz)) (va_Qi (S := Unit) (fun (r : Int32) (u : Unit) => K r ) (fun u => wpost D (va_A [(a_t, .inr (7, [.int t_places, .ref a_t_house, .ref a_t_view, .int t_skins, .ref a_t_girth, .ref a_t_kind, .int t_smoke, .int t_tide, .ref a_t_hiding])), (a_t_house, .inl (tc 0, 9, .inl f_t_house))] sz) [(a_t, .inr (7, [.int t_places, .ref a_t_house, .ref a_t_view, .int t_skins, .ref a_t_girth, .ref a_t_kind, .int t_smoke, .int t_tide, .ref a_t_hiding])), (a_t_house, .inl (tc 0, 9, .inl f_t_house))]) (va_A [(a_t, .inr (7, [.int t_places, .ref a_t_house, .ref a_t_view, .int t_skins, .ref a_t_girth, .ref a_t_kind, .int t_smoke, .int t_tide, .ref a_t_hiding])), (a_t_house, .inl (tc 0, 9, .inl f_t_house))] sz)) 0 0 (va_A [(a_t, .inr (7, [.int t_places, .ref a_t_house, .ref a_t_view, .int t_skins, .ref a_t_girth, .ref a_t_kind, .int t_smoke, .int t_tide, .ref a_t_hiding])), (a_t_house, .inl (tc 0, 9, .inl f_t_house))] sz) := by
  refine Met.ofW (cc := cX7_isIn) (maxL := 3) (ret := (some .boolean)) (by decide) rfl ?_
  intro p e s m args below meth c s₁ B hml hv
  obtain ⟨rfl, hsz, hP, hK, hD0⟩ := hv
  have hx := B.exec
  have hb := B.bytes
  have hr := B.returns
  have hts := atoms_spec (ws := wsX7_isIn) B.pre
  have hown : s.vm.findClass RX7 = some m.cls := findClass_of_methodNamed B.named
  have hlocks := B.notSynchronized
  subst hsz
  have hD := hD0.self (sz := s.heap.size)
  generalize hAe : va_A [(a_t, .inr (7, [.int t_places, .ref a_t_house, .ref a_t_view, .int t_skins, .ref a_t_girth, .ref a_t_kind, .int t_smoke, .int t_tide, .ref a_t_hiding])), (a_t_house, .inl (tc 0, 9, .inl f_t_house))] s.heap.size = A at hD ⊢
  have hA : ∀ q : Nat, s.heap.size ≤ q → A q := fun q h => by rw [← hAe]; exact Or.inr h
  have C0 : cx p s m _ c RX7 cX7_isIn 3 wsX7_isIn D tc A := ⟨hx, hb, hml, hown, hts, hK, hA⟩
  have hS : va_S A s.heap s.heap [] := va_S.rf
  have hP : va_P D vwCl [(a_t, .inr (7, [.int t_places, .ref a_t_house, .ref a_t_view, .int t_skins, .ref a_t_girth, .ref a_t_kind, .int t_smoke, .int t_tide, .ref a_t_hiding])), (a_t_house, .inl (tc 0, 9, .inl f_t_house))] s.heap := hP
  have hl := lv_entry ([.ref a_t, .int x1, .int x2]) (n := 3) (Nat.le_of_ble_eq_true rfl)
  rw [lg_entry_eq]
  generalize (lg_sl ([.ref a_t, .int x1, .int x2]) ++ List.replicate (3 - (lg_sl ([.ref a_t, .int x1, .int x2])).length) Slot.unset).toArray = ls at hl ⊢
  have hl : lv_has ls 3 [(0, .ref a_t), (1, .int x1), (2, .int x2)] := hl
  suffices hsf : ∀ H : Heap, H = s.heap → W p l e _ s m _ below meth c H [] 0 0 _ _ from hsf _ rfl
  intro H hHe
  have hS : va_S A s.heap H [] := by rw [hHe]; exact hS
  have hP : va_P D vwCl [(a_t, .inr (7, [.int t_places, .ref a_t_house, .ref a_t_view, .int t_skins, .ref a_t_girth, .ref a_t_kind, .int t_smoke, .int t_tide, .ref a_t_hiding])), (a_t_house, .inl (tc 0, 9, .inl f_t_house))] H := by rw [hHe]; exact hP
  unfold pX7_isIn at hw
  refine lv_iload_n hx hb dX7_isIn_0 rfl (lv_at hl 2 rfl) ?_
  refine lv_iconst (v := (-1)) hx hb dX7_isIn_1 (by decide) ?_
  refine lv_icmp_eq (tgt := 15) hx hb dX7_isIn_2 (by decide) (fun c_1 => ?_) (fun c_1 => ?_)
  · replace hw := hw.1 c_1
    refine lv_iconst (v := 1) hx hb dX7_isIn_15 (by decide) ?_
    refine lv_goto (tgt := 20) hx hb dX7_isIn_16 (by decide) ?_
    have hP9 := hP.sub (ws' := [(a_t, .inr (7, [.int t_places, .ref a_t_house, .ref a_t_view, .int t_skins, .ref a_t_girth, .ref a_t_kind, .int t_smoke, .int t_tide, .ref a_t_hiding])), (a_t_house, .inl (tc 0, 9, .inl f_t_house))]) [0, 1] rfl
    have hD9 := hD.sub (ws' := [(a_t, .inr (7, [.int t_places, .ref a_t_house, .ref a_t_view, .int t_skins, .ref a_t_girth, .ref a_t_kind, .int t_smoke, .int t_tide, .ref a_t_hiding])), (a_t_house, .inl (tc 0, 9, .inl f_t_house))]) [0, 1] (by decide) rfl
    exact W.zret (ty := .boolean) (v := 1) hx hb hr nbool_1 (fun t ht hW => ⟨⟨1, (), rfl, hw, by rw [ht]; exact hP9, hD9⟩, hS.F ht⟩) hS.2.2 dX7_isIn_20
  · replace hw := hw.2 c_1
    refine lv_aload_n hx hb dX7_isIn_5 rfl (lv_at hl 0 rfl) ?_
    refine va_get (D := D) (ci := 7) (v := .ref a_t_house) (C := RX7) (T := TX7) (N := 9) hx hb hts iX7_isIn_X7 hown hK.1 hP 0 rfl rfl 1 (by decide) (hts _ fX7_isIn_15) (fun _ h9 => h9) rfl dX7_isIn_6 ?_
    refine lv_iload_n hx hb dX7_isIn_9 rfl (lv_at hl 1 rfl) ?_
    refine va_iald hx hb hK.1 hP 1 0 rfl rfl hw.1 dX7_isIn_10 ?_
    replace hw := hw.2
    refine lv_iload_n hx hb dX7_isIn_11 rfl (lv_at hl 2 rfl) ?_
    refine lv_icmp_ne (tgt := 19) hx hb dX7_isIn_12 (by decide) (fun c_2 => ?_) (fun c_2 => ?_)
    · replace hw := hw.1 c_2
      refine lv_iconst (v := 0) hx hb dX7_isIn_19 (by decide) ?_
      have hP9 := hP.sub (ws' := [(a_t, .inr (7, [.int t_places, .ref a_t_house, .ref a_t_view, .int t_skins, .ref a_t_girth, .ref a_t_kind, .int t_smoke, .int t_tide, .ref a_t_hiding])), (a_t_house, .inl (tc 0, 9, .inl f_t_house))]) [0, 1] rfl
      have hD9 := hD.sub (ws' := [(a_t, .inr (7, [.int t_places, .ref a_t_house, .ref a_t_view, .int t_skins, .ref a_t_girth, .ref a_t_kind, .int t_smoke, .int t_tide, .ref a_t_hiding])), (a_t_house, .inl (tc 0, 9, .inl f_t_house))]) [0, 1] (by decide) rfl
      exact W.zret (ty := .boolean) (v := 0) hx hb hr nbool_0 (fun t ht hW => ⟨⟨0, (), rfl, hw, by rw [ht]; exact hP9, hD9⟩, hS.F ht⟩) hS.2.2 dX7_isIn_20
    · replace hw := hw.2 c_2
      refine lv_iconst (v := 1) hx hb dX7_isIn_15 (by decide) ?_
      refine lv_goto (tgt := 20) hx hb dX7_isIn_16 (by decide) ?_
      have hP9 := hP.sub (ws' := [(a_t, .inr (7, [.int t_places, .ref a_t_house, .ref a_t_view, .int t_skins, .ref a_t_girth, .ref a_t_kind, .int t_smoke, .int t_tide, .ref a_t_hiding])), (a_t_house, .inl (tc 0, 9, .inl f_t_house))]) [0, 1] rfl
      have hD9 := hD.sub (ws' := [(a_t, .inr (7, [.int t_places, .ref a_t_house, .ref a_t_view, .int t_skins, .ref a_t_girth, .ref a_t_kind, .int t_smoke, .int t_tide, .ref a_t_hiding])), (a_t_house, .inl (tc 0, 9, .inl f_t_house))]) [0, 1] (by decide) rfl
      exact W.zret (ty := .boolean) (v := 1) hx hb hr nbool_1 (fun t ht hW => ⟨⟨1, (), rfl, hw, by rw [ht]; exact hP9, hD9⟩, hS.F ht⟩) hS.2.2 dX7_isIn_20

theorem fX7_partsOf_19 : Cond.fieldLink RX7 19 "SkinInRafters$Town" "view" "[I" ∈ wsX7_partsOf := by decide +kernel
theorem iX7_partsOf_X7 : ∀ w ∈ wsX70, w ∈ wsX7_partsOf := by decide +kernel
def pX7_partsOf (f_t_view : Nat → Int32) (x1 : Int32) (K : Int32 → Prop) : Prop :=
  vp_in x1 9 ∧ ((1 ≤ (f_t_view x1.toNatClampNeg) → (vp_in x1 9 ∧ ((¬ (f_t_view x1.toNatClampNeg) = (0 : Int32)) ∧ (K ((2520 : Int32) / (f_t_view x1.toNatClampNeg)))))) ∧ (¬ (1 ≤ (f_t_view x1.toNatClampNeg)) → (K 0)))
set_option maxHeartbeats 4000000 in
set_option maxRecDepth 100000 in
theorem mX7_partsOf {l : Launch} {D : va_G} {tc : Nat → ClassId} {sz : Nat} {a_t a_t_house a_t_view a_t_girth a_t_kind a_t_hiding : Nat} {t_places : Int32} {t_skins : Int32} {t_smoke : Int32} {t_tide : Int32} {f_t_view : Nat → Int32} {x1 : Int32} {K : Int32 → Prop} (hw : pX7_partsOf f_t_view x1 K) : Met l yX7_partsOf wsX7_partsOf ({ frames := 0, cells := 0, slots := 0, locals := 0 } : Room) (va_Pc [.ref a_t, .int x1] (wpre D tc [(a_t, .inr (7, [.int t_places, .ref a_t_house, .ref a_t_view, .int t_skins, .ref a_t_girth, .ref a_t_kind, .int t_smoke, .int t_tide, .ref a_t_hiding])), (a_t_view, .inl (tc 0, 9, .inl f_t_view))] sz)) (va_Qi (S := Unit) (fun (r : Int32) (u : Unit) => K r ) (fun u => wpost D (va_A [(a_t, .inr (7, [.int t_places, .ref a_t_house, .ref a_t_view, .int t_skins, .ref a_t_girth, .ref a_t_kind, .int t_smoke, .int t_tide, .ref a_t_hiding])), (a_t_view, .inl (tc 0, 9, .inl f_t_view))] sz) [(a_t, .inr (7, [.int t_places, .ref a_t_house, .ref a_t_view, .int t_skins, .ref a_t_girth, .ref a_t_kind, .int t_smoke, .int t_tide, .ref a_t_hiding])), (a_t_view, .inl (tc 0, 9, .inl f_t_view))]) (va_A [(a_t, .inr (7, [.int t_places, .ref a_t_house, .ref a_t_view, .int t_skins, .ref a_t_girth, .ref a_t_kind, .int t_smoke, .int t_tide, .ref a_t_hiding])), (a_t_view, .inl (tc 0, 9, .inl f_t_view))] sz)) 0 0 (va_A [(a_t, .inr (7, [.int t_places, .ref a_t_house, .ref a_t_view, .int t_skins, .ref a_t_girth, .ref a_t_kind, .int t_smoke, .int t_tide, .ref a_t_hiding])), (a_t_view, .inl (tc 0, 9, .inl f_t_view))] sz) := by
  refine Met.ofW (cc := cX7_partsOf) (maxL := 2) (ret := (some .int)) (by decide) rfl ?_
  intro p e s m args below meth c s₁ B hml hv
  obtain ⟨rfl, hsz, hP, hK, hD0⟩ := hv
  have hx := B.exec
  have hb := B.bytes
  have hr := B.returns
  have hts := atoms_spec (ws := wsX7_partsOf) B.pre
  have hown : s.vm.findClass RX7 = some m.cls := findClass_of_methodNamed B.named
  have hlocks := B.notSynchronized
  subst hsz
  have hD := hD0.self (sz := s.heap.size)
  generalize hAe : va_A [(a_t, .inr (7, [.int t_places, .ref a_t_house, .ref a_t_view, .int t_skins, .ref a_t_girth, .ref a_t_kind, .int t_smoke, .int t_tide, .ref a_t_hiding])), (a_t_view, .inl (tc 0, 9, .inl f_t_view))] s.heap.size = A at hD ⊢
  have hA : ∀ q : Nat, s.heap.size ≤ q → A q := fun q h => by rw [← hAe]; exact Or.inr h
  have C0 : cx p s m _ c RX7 cX7_partsOf 2 wsX7_partsOf D tc A := ⟨hx, hb, hml, hown, hts, hK, hA⟩
  have hS : va_S A s.heap s.heap [] := va_S.rf
  have hP : va_P D vwCl [(a_t, .inr (7, [.int t_places, .ref a_t_house, .ref a_t_view, .int t_skins, .ref a_t_girth, .ref a_t_kind, .int t_smoke, .int t_tide, .ref a_t_hiding])), (a_t_view, .inl (tc 0, 9, .inl f_t_view))] s.heap := hP
  have hl := lv_entry ([.ref a_t, .int x1]) (n := 2) (Nat.le_of_ble_eq_true rfl)
  rw [lg_entry_eq]
  generalize (lg_sl ([.ref a_t, .int x1]) ++ List.replicate (2 - (lg_sl ([.ref a_t, .int x1])).length) Slot.unset).toArray = ls at hl ⊢
  have hl : lv_has ls 2 [(0, .ref a_t), (1, .int x1)] := hl
  suffices hsf : ∀ H : Heap, H = s.heap → W p l e _ s m _ below meth c H [] 0 0 _ _ from hsf _ rfl
  intro H hHe
  have hS : va_S A s.heap H [] := by rw [hHe]; exact hS
  have hP : va_P D vwCl [(a_t, .inr (7, [.int t_places, .ref a_t_house, .ref a_t_view, .int t_skins, .ref a_t_girth, .ref a_t_kind, .int t_smoke, .int t_tide, .ref a_t_hiding])), (a_t_view, .inl (tc 0, 9, .inl f_t_view))] H := by rw [hHe]; exact hP
  unfold pX7_partsOf at hw
  refine lv_aload_n hx hb dX7_partsOf_0 rfl (lv_at hl 0 rfl) ?_
  refine va_get (D := D) (ci := 7) (v := .ref a_t_view) (C := RX7) (T := TX7) (N := 9) hx hb hts iX7_partsOf_X7 hown hK.1 hP 0 rfl rfl 2 (by decide) (hts _ fX7_partsOf_19) (fun _ h9 => h9) rfl dX7_partsOf_1 ?_
  refine lv_iload_n hx hb dX7_partsOf_4 rfl (lv_at hl 1 rfl) ?_
  refine va_iald hx hb hK.1 hP 1 0 rfl rfl hw.1 dX7_partsOf_5 ?_
  replace hw := hw.2
  refine lv_iconst (v := 1) hx hb dX7_partsOf_6 (by decide) ?_
  refine lv_icmp_ge (tgt := 14) hx hb dX7_partsOf_7 (by decide) (fun c_1 => ?_) (fun c_1 => ?_)
  · replace hw := hw.1 c_1
    refine lv_sipush (v := 2520) hx hb dX7_partsOf_14 (by decide) ?_
    refine lv_aload_n hx hb dX7_partsOf_17 rfl (lv_at hl 0 rfl) ?_
    refine va_get (D := D) (ci := 7) (v := .ref a_t_view) (C := RX7) (T := TX7) (N := 9) hx hb hts iX7_partsOf_X7 hown hK.1 hP 0 rfl rfl 2 (by decide) (hts _ fX7_partsOf_19) (fun _ h9 => h9) rfl dX7_partsOf_18 ?_
    refine lv_iload_n hx hb dX7_partsOf_21 rfl (lv_at hl 1 rfl) ?_
    refine va_iald hx hb hK.1 hP 1 0 rfl rfl hw.1 dX7_partsOf_22 ?_
    replace hw := hw.2
    refine lv_idiv hx hb dX7_partsOf_23 hw.1 ?_
    replace hw := hw.2
    have hP9 := hP.sub (ws' := [(a_t, .inr (7, [.int t_places, .ref a_t_house, .ref a_t_view, .int t_skins, .ref a_t_girth, .ref a_t_kind, .int t_smoke, .int t_tide, .ref a_t_hiding])), (a_t_view, .inl (tc 0, 9, .inl f_t_view))]) [0, 1] rfl
    have hD9 := hD.sub (ws' := [(a_t, .inr (7, [.int t_places, .ref a_t_house, .ref a_t_view, .int t_skins, .ref a_t_girth, .ref a_t_kind, .int t_smoke, .int t_tide, .ref a_t_hiding])), (a_t_view, .inl (tc 0, 9, .inl f_t_view))]) [0, 1] (by decide) rfl
    exact W.iret (v := ((2520 : Int32) / (f_t_view x1.toNatClampNeg))) hx hb hr (fun t ht hW => ⟨⟨((2520 : Int32) / (f_t_view x1.toNatClampNeg)), (), rfl, hw, by rw [ht]; exact hP9, hD9⟩, hS.F ht⟩) hS.2.2 dX7_partsOf_24
  · replace hw := hw.2 c_1
    refine lv_iconst (v := 0) hx hb dX7_partsOf_10 (by decide) ?_
    refine lv_goto (tgt := 24) hx hb dX7_partsOf_11 (by decide) ?_
    have hP9 := hP.sub (ws' := [(a_t, .inr (7, [.int t_places, .ref a_t_house, .ref a_t_view, .int t_skins, .ref a_t_girth, .ref a_t_kind, .int t_smoke, .int t_tide, .ref a_t_hiding])), (a_t_view, .inl (tc 0, 9, .inl f_t_view))]) [0, 1] rfl
    have hD9 := hD.sub (ws' := [(a_t, .inr (7, [.int t_places, .ref a_t_house, .ref a_t_view, .int t_skins, .ref a_t_girth, .ref a_t_kind, .int t_smoke, .int t_tide, .ref a_t_hiding])), (a_t_view, .inl (tc 0, 9, .inl f_t_view))]) [0, 1] (by decide) rfl
    exact W.iret (v := 0) hx hb hr (fun t ht hW => ⟨⟨0, (), rfl, hw, by rw [ht]; exact hP9, hD9⟩, hS.F ht⟩) hS.2.2 dX7_partsOf_24

theorem fX7_girthOn_25 : Cond.fieldLink RX7 25 "SkinInRafters$Town" "girth" "[I" ∈ wsX7_girthOn := by decide +kernel
theorem fX7_girthOn_31 : Cond.fieldLink RX7 31 "SkinInRafters$Town" "smoke" "I" ∈ wsX7_girthOn := by decide +kernel
theorem iX7_girthOn_X7 : ∀ w ∈ wsX70, w ∈ wsX7_girthOn := by decide +kernel
def pX7_girthOn (t_smoke : Int32) (f_t_girth : Nat → Int32) (x1 : Int32) (x2 : Int32) (K : Int32 → Prop) : Prop :=
  (1 ≤ t_smoke → (vp_in x1 5 ∧ ((¬ t_smoke = (0 : Int32)) ∧ ((1 ≤ ((f_t_girth x1.toNatClampNeg) - (x2 / t_smoke)) → (K ((f_t_girth x1.toNatClampNeg) - (x2 / t_smoke)))) ∧ (¬ (1 ≤ ((f_t_girth x1.toNatClampNeg) - (x2 / t_smoke))) → (K 1)))))) ∧ (¬ (1 ≤ t_smoke) → (vp_in x1 5 ∧ ((1 ≤ (f_t_girth x1.toNatClampNeg) → (K (f_t_girth x1.toNatClampNeg))) ∧ (¬ (1 ≤ (f_t_girth x1.toNatClampNeg)) → (K 1)))))
set_option maxHeartbeats 4000000 in
set_option maxRecDepth 100000 in
theorem mX7_girthOn {l : Launch} {D : va_G} {tc : Nat → ClassId} {sz : Nat} {a_t a_t_house a_t_view a_t_girth a_t_kind a_t_hiding : Nat} {t_places : Int32} {t_skins : Int32} {t_smoke : Int32} {t_tide : Int32} {f_t_girth : Nat → Int32} {x1 : Int32} {x2 : Int32} {K : Int32 → Prop} (hw : pX7_girthOn t_smoke f_t_girth x1 x2 K) : Met l yX7_girthOn wsX7_girthOn ({ frames := 0, cells := 0, slots := 0, locals := 0 } : Room) (va_Pc [.ref a_t, .int x1, .int x2] (wpre D tc [(a_t, .inr (7, [.int t_places, .ref a_t_house, .ref a_t_view, .int t_skins, .ref a_t_girth, .ref a_t_kind, .int t_smoke, .int t_tide, .ref a_t_hiding])), (a_t_girth, .inl (tc 0, 5, .inl f_t_girth))] sz)) (va_Qi (S := Unit) (fun (r : Int32) (u : Unit) => K r ) (fun u => wpost D (va_A [(a_t, .inr (7, [.int t_places, .ref a_t_house, .ref a_t_view, .int t_skins, .ref a_t_girth, .ref a_t_kind, .int t_smoke, .int t_tide, .ref a_t_hiding])), (a_t_girth, .inl (tc 0, 5, .inl f_t_girth))] sz) [(a_t, .inr (7, [.int t_places, .ref a_t_house, .ref a_t_view, .int t_skins, .ref a_t_girth, .ref a_t_kind, .int t_smoke, .int t_tide, .ref a_t_hiding])), (a_t_girth, .inl (tc 0, 5, .inl f_t_girth))]) (va_A [(a_t, .inr (7, [.int t_places, .ref a_t_house, .ref a_t_view, .int t_skins, .ref a_t_girth, .ref a_t_kind, .int t_smoke, .int t_tide, .ref a_t_hiding])), (a_t_girth, .inl (tc 0, 5, .inl f_t_girth))] sz)) 0 0 (va_A [(a_t, .inr (7, [.int t_places, .ref a_t_house, .ref a_t_view, .int t_skins, .ref a_t_girth, .ref a_t_kind, .int t_smoke, .int t_tide, .ref a_t_hiding])), (a_t_girth, .inl (tc 0, 5, .inl f_t_girth))] sz) := by
  refine Met.ofW (cc := cX7_girthOn) (maxL := 4) (ret := (some .int)) (by decide) rfl ?_
  intro p e s m args below meth c s₁ B hml hv
  obtain ⟨rfl, hsz, hP, hK, hD0⟩ := hv
  have hx := B.exec
  have hb := B.bytes
  have hr := B.returns
  have hts := atoms_spec (ws := wsX7_girthOn) B.pre
  have hown : s.vm.findClass RX7 = some m.cls := findClass_of_methodNamed B.named
  have hlocks := B.notSynchronized
  subst hsz
  have hD := hD0.self (sz := s.heap.size)
  generalize hAe : va_A [(a_t, .inr (7, [.int t_places, .ref a_t_house, .ref a_t_view, .int t_skins, .ref a_t_girth, .ref a_t_kind, .int t_smoke, .int t_tide, .ref a_t_hiding])), (a_t_girth, .inl (tc 0, 5, .inl f_t_girth))] s.heap.size = A at hD ⊢
  have hA : ∀ q : Nat, s.heap.size ≤ q → A q := fun q h => by rw [← hAe]; exact Or.inr h
  have C0 : cx p s m _ c RX7 cX7_girthOn 4 wsX7_girthOn D tc A := ⟨hx, hb, hml, hown, hts, hK, hA⟩
  have hS : va_S A s.heap s.heap [] := va_S.rf
  have hP : va_P D vwCl [(a_t, .inr (7, [.int t_places, .ref a_t_house, .ref a_t_view, .int t_skins, .ref a_t_girth, .ref a_t_kind, .int t_smoke, .int t_tide, .ref a_t_hiding])), (a_t_girth, .inl (tc 0, 5, .inl f_t_girth))] s.heap := hP
  have hl := lv_entry ([.ref a_t, .int x1, .int x2]) (n := 4) (Nat.le_of_ble_eq_true rfl)
  rw [lg_entry_eq]
  generalize (lg_sl ([.ref a_t, .int x1, .int x2]) ++ List.replicate (4 - (lg_sl ([.ref a_t, .int x1, .int x2])).length) Slot.unset).toArray = ls at hl ⊢
  have hl : lv_has ls 4 [(0, .ref a_t), (1, .int x1), (2, .int x2)] := hl
  suffices hsf : ∀ H : Heap, H = s.heap → W p l e _ s m _ below meth c H [] 0 0 _ _ from hsf _ rfl
  intro H hHe
  have hS : va_S A s.heap H [] := by rw [hHe]; exact hS
  have hP : va_P D vwCl [(a_t, .inr (7, [.int t_places, .ref a_t_house, .ref a_t_view, .int t_skins, .ref a_t_girth, .ref a_t_kind, .int t_smoke, .int t_tide, .ref a_t_hiding])), (a_t_girth, .inl (tc 0, 5, .inl f_t_girth))] H := by rw [hHe]; exact hP
  unfold pX7_girthOn at hw
  refine lv_aload_n hx hb dX7_girthOn_0 rfl (lv_at hl 0 rfl) ?_
  refine va_get (D := D) (ci := 7) (v := .int t_smoke) (C := RX7) (T := TX7) (N := 9) hx hb hts iX7_girthOn_X7 hown hK.1 hP 0 rfl rfl 6 (by decide) (hts _ fX7_girthOn_31) (fun _ h9 => h9) rfl dX7_girthOn_1 ?_
  refine lv_iconst (v := 1) hx hb dX7_girthOn_4 (by decide) ?_
  refine lv_icmp_ge (tgt := 17) hx hb dX7_girthOn_5 (by decide) (fun c_1 => ?_) (fun c_1 => ?_)
  · replace hw := hw.1 c_1
    refine lv_aload_n hx hb dX7_girthOn_17 rfl (lv_at hl 0 rfl) ?_
    refine va_get (D := D) (ci := 7) (v := .ref a_t_girth) (C := RX7) (T := TX7) (N := 9) hx hb hts iX7_girthOn_X7 hown hK.1 hP 0 rfl rfl 4 (by decide) (hts _ fX7_girthOn_25) (fun _ h9 => h9) rfl dX7_girthOn_18 ?_
    refine lv_iload_n hx hb dX7_girthOn_21 rfl (lv_at hl 1 rfl) ?_
    refine va_iald hx hb hK.1 hP 1 0 rfl rfl hw.1 dX7_girthOn_22 ?_
    replace hw := hw.2
    refine lv_iload_n hx hb dX7_girthOn_23 rfl (lv_at hl 2 rfl) ?_
    refine lv_aload_n hx hb dX7_girthOn_24 rfl (lv_at hl 0 rfl) ?_
    refine va_get (D := D) (ci := 7) (v := .int t_smoke) (C := RX7) (T := TX7) (N := 9) hx hb hts iX7_girthOn_X7 hown hK.1 hP 0 rfl rfl 6 (by decide) (hts _ fX7_girthOn_31) (fun _ h9 => h9) rfl dX7_girthOn_25 ?_
    refine lv_idiv hx hb dX7_girthOn_28 hw.1 ?_
    replace hw := hw.2
    refine lv_isub hx hb dX7_girthOn_29 ?_
    refine lv_istore_n (lv' := [(3, .int ((f_t_girth x1.toNatClampNeg) - (x2 / t_smoke))), (0, .ref a_t), (1, .int x1), (2, .int x2)]) hx hb dX7_girthOn_30 rfl hl (by decide) rfl (fun ls hl => ?_)
    refine lv_iload_n hx hb dX7_girthOn_31 rfl (lv_at hl 0 rfl) ?_
    refine lv_iconst (v := 1) hx hb dX7_girthOn_32 (by decide) ?_
    refine lv_icmp_ge (tgt := 40) hx hb dX7_girthOn_33 (by decide) (fun c_2 => ?_) (fun c_2 => ?_)
    · replace hw := hw.1 c_2
      refine lv_iload_n hx hb dX7_girthOn_40 rfl (lv_at hl 0 rfl) ?_
      have hP9 := hP.sub (ws' := [(a_t, .inr (7, [.int t_places, .ref a_t_house, .ref a_t_view, .int t_skins, .ref a_t_girth, .ref a_t_kind, .int t_smoke, .int t_tide, .ref a_t_hiding])), (a_t_girth, .inl (tc 0, 5, .inl f_t_girth))]) [0, 1] rfl
      have hD9 := hD.sub (ws' := [(a_t, .inr (7, [.int t_places, .ref a_t_house, .ref a_t_view, .int t_skins, .ref a_t_girth, .ref a_t_kind, .int t_smoke, .int t_tide, .ref a_t_hiding])), (a_t_girth, .inl (tc 0, 5, .inl f_t_girth))]) [0, 1] (by decide) rfl
      exact W.iret (v := ((f_t_girth x1.toNatClampNeg) - (x2 / t_smoke))) hx hb hr (fun t ht hW => ⟨⟨((f_t_girth x1.toNatClampNeg) - (x2 / t_smoke)), (), rfl, hw, by rw [ht]; exact hP9, hD9⟩, hS.F ht⟩) hS.2.2 dX7_girthOn_41
    · replace hw := hw.2 c_2
      refine lv_iconst (v := 1) hx hb dX7_girthOn_36 (by decide) ?_
      refine lv_goto (tgt := 41) hx hb dX7_girthOn_37 (by decide) ?_
      have hP9 := hP.sub (ws' := [(a_t, .inr (7, [.int t_places, .ref a_t_house, .ref a_t_view, .int t_skins, .ref a_t_girth, .ref a_t_kind, .int t_smoke, .int t_tide, .ref a_t_hiding])), (a_t_girth, .inl (tc 0, 5, .inl f_t_girth))]) [0, 1] rfl
      have hD9 := hD.sub (ws' := [(a_t, .inr (7, [.int t_places, .ref a_t_house, .ref a_t_view, .int t_skins, .ref a_t_girth, .ref a_t_kind, .int t_smoke, .int t_tide, .ref a_t_hiding])), (a_t_girth, .inl (tc 0, 5, .inl f_t_girth))]) [0, 1] (by decide) rfl
      exact W.iret (v := 1) hx hb hr (fun t ht hW => ⟨⟨1, (), rfl, hw, by rw [ht]; exact hP9, hD9⟩, hS.F ht⟩) hS.2.2 dX7_girthOn_41
  · replace hw := hw.2 c_1
    refine lv_aload_n hx hb dX7_girthOn_8 rfl (lv_at hl 0 rfl) ?_
    refine va_get (D := D) (ci := 7) (v := .ref a_t_girth) (C := RX7) (T := TX7) (N := 9) hx hb hts iX7_girthOn_X7 hown hK.1 hP 0 rfl rfl 4 (by decide) (hts _ fX7_girthOn_25) (fun _ h9 => h9) rfl dX7_girthOn_9 ?_
    refine lv_iload_n hx hb dX7_girthOn_12 rfl (lv_at hl 1 rfl) ?_
    refine va_iald hx hb hK.1 hP 1 0 rfl rfl hw.1 dX7_girthOn_13 ?_
    replace hw := hw.2
    refine lv_goto (tgt := 30) hx hb dX7_girthOn_14 (by decide) ?_
    refine lv_istore_n (lv' := [(3, .int (f_t_girth x1.toNatClampNeg)), (0, .ref a_t), (1, .int x1), (2, .int x2)]) hx hb dX7_girthOn_30 rfl hl (by decide) rfl (fun ls hl => ?_)
    refine lv_iload_n hx hb dX7_girthOn_31 rfl (lv_at hl 0 rfl) ?_
    refine lv_iconst (v := 1) hx hb dX7_girthOn_32 (by decide) ?_
    refine lv_icmp_ge (tgt := 40) hx hb dX7_girthOn_33 (by decide) (fun c_3 => ?_) (fun c_3 => ?_)
    · replace hw := hw.1 c_3
      refine lv_iload_n hx hb dX7_girthOn_40 rfl (lv_at hl 0 rfl) ?_
      have hP9 := hP.sub (ws' := [(a_t, .inr (7, [.int t_places, .ref a_t_house, .ref a_t_view, .int t_skins, .ref a_t_girth, .ref a_t_kind, .int t_smoke, .int t_tide, .ref a_t_hiding])), (a_t_girth, .inl (tc 0, 5, .inl f_t_girth))]) [0, 1] rfl
      have hD9 := hD.sub (ws' := [(a_t, .inr (7, [.int t_places, .ref a_t_house, .ref a_t_view, .int t_skins, .ref a_t_girth, .ref a_t_kind, .int t_smoke, .int t_tide, .ref a_t_hiding])), (a_t_girth, .inl (tc 0, 5, .inl f_t_girth))]) [0, 1] (by decide) rfl
      exact W.iret (v := (f_t_girth x1.toNatClampNeg)) hx hb hr (fun t ht hW => ⟨⟨(f_t_girth x1.toNatClampNeg), (), rfl, hw, by rw [ht]; exact hP9, hD9⟩, hS.F ht⟩) hS.2.2 dX7_girthOn_41
    · replace hw := hw.2 c_3
      refine lv_iconst (v := 1) hx hb dX7_girthOn_36 (by decide) ?_
      refine lv_goto (tgt := 41) hx hb dX7_girthOn_37 (by decide) ?_
      have hP9 := hP.sub (ws' := [(a_t, .inr (7, [.int t_places, .ref a_t_house, .ref a_t_view, .int t_skins, .ref a_t_girth, .ref a_t_kind, .int t_smoke, .int t_tide, .ref a_t_hiding])), (a_t_girth, .inl (tc 0, 5, .inl f_t_girth))]) [0, 1] rfl
      have hD9 := hD.sub (ws' := [(a_t, .inr (7, [.int t_places, .ref a_t_house, .ref a_t_view, .int t_skins, .ref a_t_girth, .ref a_t_kind, .int t_smoke, .int t_tide, .ref a_t_hiding])), (a_t_girth, .inl (tc 0, 5, .inl f_t_girth))]) [0, 1] (by decide) rfl
      exact W.iret (v := 1) hx hb hr (fun t ht hW => ⟨⟨1, (), rfl, hw, by rw [ht]; exact hP9, hD9⟩, hS.F ht⟩) hS.2.2 dX7_girthOn_41

theorem fX7_suits_25 : Cond.fieldLink RX7 25 "SkinInRafters$Town" "girth" "[I" ∈ wsX7_suits := by decide +kernel
theorem iX7_suits_X7 : ∀ w ∈ wsX70, w ∈ wsX7_suits := by decide +kernel
theorem wX7_suits_mc84 : Cond.code Lib.Math.abs.name Lib.Math.abs.code 1 (some .int) ∈ wsX7_suits := by decide +kernel
theorem wX7_suits_mi84 : Cond.initialized "java/lang/Math" ∈ wsX7_suits := by decide +kernel
theorem wX7_suits_ml84 : Cond.methodLink RX7 84 Lib.Math.abs.name ∈ wsX7_suits := by decide +kernel
theorem wX7_suits_st84 : Cond.static Lib.Math.abs.name ∈ wsX7_suits := by decide +kernel
def pX7_suits (t_smoke : Int32) (f_t_girth : Nat → Int32) (x1 : Int32) (x2 : Int32) (x3 : Int32) (K : Int32 → Prop) : Prop :=
  pX7_girthOn t_smoke f_t_girth x2 x3 (fun (r_1 : Int32) => (vp_in x1 5 ∧ (∀ y_2 : Int32, y_2 = (if 0 ≤ (r_1 - (f_t_girth x1.toNatClampNeg)) then (r_1 - (f_t_girth x1.toNatClampNeg)) else 0 - (r_1 - (f_t_girth x1.toNatClampNeg))) → ((2 < y_2 → (K 0)) ∧ (¬ (2 < y_2) → (K 1))))))
set_option maxHeartbeats 4000000 in
set_option maxRecDepth 100000 in
theorem mX7_suits {l : Launch} {D : va_G} {tc : Nat → ClassId} {sz : Nat} {a_t a_t_house a_t_view a_t_girth a_t_kind a_t_hiding : Nat} {t_places : Int32} {t_skins : Int32} {t_smoke : Int32} {t_tide : Int32} {f_t_girth : Nat → Int32} {x1 : Int32} {x2 : Int32} {x3 : Int32} {K : Int32 → Prop} (hw : pX7_suits t_smoke f_t_girth x1 x2 x3 K) : Met l yX7_suits wsX7_suits ({ frames := 1, cells := 0, slots := 0, locals := 23 } : Room) (va_Pc [.ref a_t, .int x1, .int x2, .int x3] (wpre D tc [(a_t, .inr (7, [.int t_places, .ref a_t_house, .ref a_t_view, .int t_skins, .ref a_t_girth, .ref a_t_kind, .int t_smoke, .int t_tide, .ref a_t_hiding])), (a_t_girth, .inl (tc 0, 5, .inl f_t_girth))] sz)) (va_Qi (S := Unit) (fun (r : Int32) (u : Unit) => K r ) (fun u => wpost D (va_A [(a_t, .inr (7, [.int t_places, .ref a_t_house, .ref a_t_view, .int t_skins, .ref a_t_girth, .ref a_t_kind, .int t_smoke, .int t_tide, .ref a_t_hiding])), (a_t_girth, .inl (tc 0, 5, .inl f_t_girth))] sz) [(a_t, .inr (7, [.int t_places, .ref a_t_house, .ref a_t_view, .int t_skins, .ref a_t_girth, .ref a_t_kind, .int t_smoke, .int t_tide, .ref a_t_hiding])), (a_t_girth, .inl (tc 0, 5, .inl f_t_girth))]) (va_A [(a_t, .inr (7, [.int t_places, .ref a_t_house, .ref a_t_view, .int t_skins, .ref a_t_girth, .ref a_t_kind, .int t_smoke, .int t_tide, .ref a_t_hiding])), (a_t_girth, .inl (tc 0, 5, .inl f_t_girth))] sz)) 0 0 (va_A [(a_t, .inr (7, [.int t_places, .ref a_t_house, .ref a_t_view, .int t_skins, .ref a_t_girth, .ref a_t_kind, .int t_smoke, .int t_tide, .ref a_t_hiding])), (a_t_girth, .inl (tc 0, 5, .inl f_t_girth))] sz) := by
  refine Met.ofW (cc := cX7_suits) (maxL := 4) (ret := (some .boolean)) (by decide) rfl ?_
  intro p e s m args below meth c s₁ B hml hv
  obtain ⟨rfl, hsz, hP, hK, hD0⟩ := hv
  have hx := B.exec
  have hb := B.bytes
  have hr := B.returns
  have hts := atoms_spec (ws := wsX7_suits) B.pre
  have hown : s.vm.findClass RX7 = some m.cls := findClass_of_methodNamed B.named
  have hlocks := B.notSynchronized
  subst hsz
  have hD := hD0.self (sz := s.heap.size)
  generalize hAe : va_A [(a_t, .inr (7, [.int t_places, .ref a_t_house, .ref a_t_view, .int t_skins, .ref a_t_girth, .ref a_t_kind, .int t_smoke, .int t_tide, .ref a_t_hiding])), (a_t_girth, .inl (tc 0, 5, .inl f_t_girth))] s.heap.size = A at hD ⊢
  have hA : ∀ q : Nat, s.heap.size ≤ q → A q := fun q h => by rw [← hAe]; exact Or.inr h
  have C0 : cx p s m _ c RX7 cX7_suits 4 wsX7_suits D tc A := ⟨hx, hb, hml, hown, hts, hK, hA⟩
  have hS : va_S A s.heap s.heap [] := va_S.rf
  have hP : va_P D vwCl [(a_t, .inr (7, [.int t_places, .ref a_t_house, .ref a_t_view, .int t_skins, .ref a_t_girth, .ref a_t_kind, .int t_smoke, .int t_tide, .ref a_t_hiding])), (a_t_girth, .inl (tc 0, 5, .inl f_t_girth))] s.heap := hP
  have hl := lv_entry ([.ref a_t, .int x1, .int x2, .int x3]) (n := 4) (Nat.le_of_ble_eq_true rfl)
  rw [lg_entry_eq]
  generalize (lg_sl ([.ref a_t, .int x1, .int x2, .int x3]) ++ List.replicate (4 - (lg_sl ([.ref a_t, .int x1, .int x2, .int x3])).length) Slot.unset).toArray = ls at hl ⊢
  have hl : lv_has ls 4 [(0, .ref a_t), (1, .int x1), (2, .int x2), (3, .int x3)] := hl
  suffices hsf : ∀ H : Heap, H = s.heap → W p l e _ s m _ below meth c H [] 0 0 _ _ from hsf _ rfl
  intro H hHe
  have hS : va_S A s.heap H [] := by rw [hHe]; exact hS
  have hP : va_P D vwCl [(a_t, .inr (7, [.int t_places, .ref a_t_house, .ref a_t_view, .int t_skins, .ref a_t_girth, .ref a_t_kind, .int t_smoke, .int t_tide, .ref a_t_hiding])), (a_t_girth, .inl (tc 0, 5, .inl f_t_girth))] H := by rw [hHe]; exact hP
  unfold pX7_suits at hw
  refine lv_aload_n hx hb dX7_suits_0 rfl (lv_at hl 0 rfl) ?_
  refine lv_iload_n hx hb dX7_suits_1 rfl (lv_at hl 2 rfl) ?_
  refine lv_iload_n hx hb dX7_suits_2 rfl (lv_at hl 3 rfl) ?_
  refine cl_i (wc := [(a_t, .inr (7, [.int t_places, .ref a_t_house, .ref a_t_view, .int t_skins, .ref a_t_girth, .ref a_t_kind, .int t_smoke, .int t_tide, .ref a_t_hiding])), (a_t_girth, .inl (tc 0, 5, .inl f_t_girth))]) (wr := []) hP hD hS hA [0, 1] [] rfl rfl (by decide) (by decide) (va_runV (As := [.int x2, .int x3]) (rest := []) ⟨hx, hb, hml, hown, hts⟩ (mX7_girthOn (l := l) (D := D) (tc := tc) (sz := H.size) (a_t := a_t) (a_t_house := a_t_house) (a_t_view := a_t_view) (a_t_girth := a_t_girth) (a_t_kind := a_t_kind) (a_t_hiding := a_t_hiding) (t_places := t_places) (t_skins := t_skins) (t_smoke := t_smoke) (t_tide := t_tide) (f_t_girth := f_t_girth) (x1 := x2) (x2 := x3) hw) (cwV 2 hts gX7_suits_X7_girthOn rfl rfl rfl (by decide +kernel) ⟨(Nat.le_of_ble_eq_true rfl), (Nat.le_of_ble_eq_true rfl)⟩) (pre_V hK hP hD [0, 1] rfl (by decide) 0 7 rfl rfl) rfl rfl hl.1 rfl (lv_room (Nat.le_of_ble_eq_true rfl)) dX7_suits_3 ⟨(Nat.le_of_ble_eq_true rfl), (Nat.le_of_ble_eq_true rfl)⟩) (fun r_1 u_ H locs hw hP hD hS => ?_)
  have hP : va_P D vwCl [(a_t, .inr (7, [.int t_places, .ref a_t_house, .ref a_t_view, .int t_skins, .ref a_t_girth, .ref a_t_kind, .int t_smoke, .int t_tide, .ref a_t_hiding])), (a_t_girth, .inl (tc 0, 5, .inl f_t_girth))] H := hP
  have hD : va_D A [(a_t, .inr (7, [.int t_places, .ref a_t_house, .ref a_t_view, .int t_skins, .ref a_t_girth, .ref a_t_kind, .int t_smoke, .int t_tide, .ref a_t_hiding])), (a_t_girth, .inl (tc 0, 5, .inl f_t_girth))] := hD
  refine lv_aload_n hx hb dX7_suits_6 rfl (lv_at hl 0 rfl) ?_
  refine va_get (D := D) (ci := 7) (v := .ref a_t_girth) (C := RX7) (T := TX7) (N := 9) hx hb hts iX7_suits_X7 hown hK.1 hP 0 rfl rfl 4 (by decide) (hts _ fX7_suits_25) (fun _ h9 => h9) rfl dX7_suits_7 ?_
  refine lv_iload_n hx hb dX7_suits_10 rfl (lv_at hl 1 rfl) ?_
  refine va_iald hx hb hK.1 hP 1 0 rfl rfl hw.1 dX7_suits_11 ?_
  replace hw := hw.2
  refine lv_isub hx hb dX7_suits_12 ?_
  refine va_mabs hx hb (hml.trans hl.1.symm) hown (hts _ wX7_suits_ml84) (hts _ wX7_suits_st84) (hts _ wX7_suits_mi84) (hts _ wX7_suits_mc84) (Nat.le_of_ble_eq_true rfl) (Nat.le_of_ble_eq_true rfl) (Nat.le_of_ble_eq_true rfl) (Nat.le_of_ble_eq_true rfl) dX7_suits_13 ?_
  refine lv_topi (fun y_2 ey_2 => ?_)
  replace hw := hw y_2 ey_2
  refine lv_iconst (v := 2) hx hb dX7_suits_16 (by decide) ?_
  refine lv_icmp_gt (tgt := 24) hx hb dX7_suits_17 (by decide) (fun c_3 => ?_) (fun c_3 => ?_)
  · replace hw := hw.1 c_3
    refine lv_iconst (v := 0) hx hb dX7_suits_24 (by decide) ?_
    have hP9 := hP.sub (ws' := [(a_t, .inr (7, [.int t_places, .ref a_t_house, .ref a_t_view, .int t_skins, .ref a_t_girth, .ref a_t_kind, .int t_smoke, .int t_tide, .ref a_t_hiding])), (a_t_girth, .inl (tc 0, 5, .inl f_t_girth))]) [0, 1] rfl
    have hD9 := hD.sub (ws' := [(a_t, .inr (7, [.int t_places, .ref a_t_house, .ref a_t_view, .int t_skins, .ref a_t_girth, .ref a_t_kind, .int t_smoke, .int t_tide, .ref a_t_hiding])), (a_t_girth, .inl (tc 0, 5, .inl f_t_girth))]) [0, 1] (by decide) rfl
    exact W.zret (ty := .boolean) (v := 0) hx hb hr nbool_0 (fun t ht hW => ⟨⟨0, (), rfl, hw, by rw [ht]; exact hP9, hD9⟩, hS.F ht⟩) hS.2.2 dX7_suits_25
  · replace hw := hw.2 c_3
    refine lv_iconst (v := 1) hx hb dX7_suits_20 (by decide) ?_
    refine lv_goto (tgt := 25) hx hb dX7_suits_21 (by decide) ?_
    have hP9 := hP.sub (ws' := [(a_t, .inr (7, [.int t_places, .ref a_t_house, .ref a_t_view, .int t_skins, .ref a_t_girth, .ref a_t_kind, .int t_smoke, .int t_tide, .ref a_t_hiding])), (a_t_girth, .inl (tc 0, 5, .inl f_t_girth))]) [0, 1] rfl
    have hD9 := hD.sub (ws' := [(a_t, .inr (7, [.int t_places, .ref a_t_house, .ref a_t_view, .int t_skins, .ref a_t_girth, .ref a_t_kind, .int t_smoke, .int t_tide, .ref a_t_hiding])), (a_t_girth, .inl (tc 0, 5, .inl f_t_girth))]) [0, 1] (by decide) rfl
    exact W.zret (ty := .boolean) (v := 1) hx hb hr nbool_1 (fun t ht hW => ⟨⟨1, (), rfl, hw, by rw [ht]; exact hP9, hD9⟩, hS.F ht⟩) hS.2.2 dX7_suits_25

theorem fX7_tideFrom_34 : Cond.fieldLink RX7 34 "SkinInRafters$Town" "tide" "I" ∈ wsX7_tideFrom := by decide +kernel
theorem iX7_tideFrom_X7 : ∀ w ∈ wsX70, w ∈ wsX7_tideFrom := by decide +kernel
def pX7_tideFrom (t_tide : Int32) (x1 : Int32) (K : Int32 → Prop) : Prop :=
  (1 ≤ t_tide → ((¬ t_tide = (0 : Int32)) ∧ ((¬ (x1 - x1 / t_tide * t_tide) = 0 → (K ((x1 + t_tide) - (x1 - x1 / t_tide * t_tide)))) ∧ ((x1 - x1 / t_tide * t_tide) = 0 → (K x1))))) ∧ (¬ (1 ≤ t_tide) → (K x1))
set_option maxHeartbeats 4000000 in
set_option maxRecDepth 100000 in
theorem mX7_tideFrom {l : Launch} {D : va_G} {tc : Nat → ClassId} {sz : Nat} {a_t a_t_house a_t_view a_t_girth a_t_kind a_t_hiding : Nat} {t_places : Int32} {t_skins : Int32} {t_smoke : Int32} {t_tide : Int32} {x1 : Int32} {K : Int32 → Prop} (hw : pX7_tideFrom t_tide x1 K) : Met l yX7_tideFrom wsX7_tideFrom ({ frames := 0, cells := 0, slots := 0, locals := 0 } : Room) (va_Pc [.ref a_t, .int x1] (wpre D tc [(a_t, .inr (7, [.int t_places, .ref a_t_house, .ref a_t_view, .int t_skins, .ref a_t_girth, .ref a_t_kind, .int t_smoke, .int t_tide, .ref a_t_hiding]))] sz)) (va_Qi (S := Unit) (fun (r : Int32) (u : Unit) => K r ) (fun u => wpost D (va_A [(a_t, .inr (7, [.int t_places, .ref a_t_house, .ref a_t_view, .int t_skins, .ref a_t_girth, .ref a_t_kind, .int t_smoke, .int t_tide, .ref a_t_hiding]))] sz) [(a_t, .inr (7, [.int t_places, .ref a_t_house, .ref a_t_view, .int t_skins, .ref a_t_girth, .ref a_t_kind, .int t_smoke, .int t_tide, .ref a_t_hiding]))]) (va_A [(a_t, .inr (7, [.int t_places, .ref a_t_house, .ref a_t_view, .int t_skins, .ref a_t_girth, .ref a_t_kind, .int t_smoke, .int t_tide, .ref a_t_hiding]))] sz)) 0 0 (va_A [(a_t, .inr (7, [.int t_places, .ref a_t_house, .ref a_t_view, .int t_skins, .ref a_t_girth, .ref a_t_kind, .int t_smoke, .int t_tide, .ref a_t_hiding]))] sz) := by
  refine Met.ofW (cc := cX7_tideFrom) (maxL := 3) (ret := (some .int)) (by decide) rfl ?_
  intro p e s m args below meth c s₁ B hml hv
  obtain ⟨rfl, hsz, hP, hK, hD0⟩ := hv
  have hx := B.exec
  have hb := B.bytes
  have hr := B.returns
  have hts := atoms_spec (ws := wsX7_tideFrom) B.pre
  have hown : s.vm.findClass RX7 = some m.cls := findClass_of_methodNamed B.named
  have hlocks := B.notSynchronized
  subst hsz
  have hD := hD0.self (sz := s.heap.size)
  generalize hAe : va_A [(a_t, .inr (7, [.int t_places, .ref a_t_house, .ref a_t_view, .int t_skins, .ref a_t_girth, .ref a_t_kind, .int t_smoke, .int t_tide, .ref a_t_hiding]))] s.heap.size = A at hD ⊢
  have hA : ∀ q : Nat, s.heap.size ≤ q → A q := fun q h => by rw [← hAe]; exact Or.inr h
  have C0 : cx p s m _ c RX7 cX7_tideFrom 3 wsX7_tideFrom D tc A := ⟨hx, hb, hml, hown, hts, hK, hA⟩
  have hS : va_S A s.heap s.heap [] := va_S.rf
  have hP : va_P D vwCl [(a_t, .inr (7, [.int t_places, .ref a_t_house, .ref a_t_view, .int t_skins, .ref a_t_girth, .ref a_t_kind, .int t_smoke, .int t_tide, .ref a_t_hiding]))] s.heap := hP
  have hl := lv_entry ([.ref a_t, .int x1]) (n := 3) (Nat.le_of_ble_eq_true rfl)
  rw [lg_entry_eq]
  generalize (lg_sl ([.ref a_t, .int x1]) ++ List.replicate (3 - (lg_sl ([.ref a_t, .int x1])).length) Slot.unset).toArray = ls at hl ⊢
  have hl : lv_has ls 3 [(0, .ref a_t), (1, .int x1)] := hl
  suffices hsf : ∀ H : Heap, H = s.heap → W p l e _ s m _ below meth c H [] 0 0 _ _ from hsf _ rfl
  intro H hHe
  have hS : va_S A s.heap H [] := by rw [hHe]; exact hS
  have hP : va_P D vwCl [(a_t, .inr (7, [.int t_places, .ref a_t_house, .ref a_t_view, .int t_skins, .ref a_t_girth, .ref a_t_kind, .int t_smoke, .int t_tide, .ref a_t_hiding]))] H := by rw [hHe]; exact hP
  unfold pX7_tideFrom at hw
  refine lv_aload_n hx hb dX7_tideFrom_0 rfl (lv_at hl 0 rfl) ?_
  refine va_get (D := D) (ci := 7) (v := .int t_tide) (C := RX7) (T := TX7) (N := 9) hx hb hts iX7_tideFrom_X7 hown hK.1 hP 0 rfl rfl 7 (by decide) (hts _ fX7_tideFrom_34) (fun _ h9 => h9) rfl dX7_tideFrom_1 ?_
  refine lv_iconst (v := 1) hx hb dX7_tideFrom_4 (by decide) ?_
  refine lv_icmp_ge (tgt := 12) hx hb dX7_tideFrom_5 (by decide) (fun c_1 => ?_) (fun c_1 => ?_)
  · replace hw := hw.1 c_1
    refine lv_iload_n hx hb dX7_tideFrom_12 rfl (lv_at hl 1 rfl) ?_
    refine lv_aload_n hx hb dX7_tideFrom_13 rfl (lv_at hl 0 rfl) ?_
    refine va_get (D := D) (ci := 7) (v := .int t_tide) (C := RX7) (T := TX7) (N := 9) hx hb hts iX7_tideFrom_X7 hown hK.1 hP 0 rfl rfl 7 (by decide) (hts _ fX7_tideFrom_34) (fun _ h9 => h9) rfl dX7_tideFrom_14 ?_
    refine lv_irem hx hb dX7_tideFrom_17 hw.1 ?_
    replace hw := hw.2
    refine lv_istore_n (lv' := [(2, .int (x1 - x1 / t_tide * t_tide)), (0, .ref a_t), (1, .int x1)]) hx hb dX7_tideFrom_18 rfl hl (by decide) rfl (fun ls hl => ?_)
    refine lv_iload_n hx hb dX7_tideFrom_19 rfl (lv_at hl 0 rfl) ?_
    refine lv_if_ne (tgt := 27) hx hb dX7_tideFrom_20 (by decide) (fun c_2 => ?_) (fun c_2 => ?_)
    · replace hw := hw.1 c_2
      refine lv_iload_n hx hb dX7_tideFrom_27 rfl (lv_at hl 2 rfl) ?_
      refine lv_aload_n hx hb dX7_tideFrom_28 rfl (lv_at hl 1 rfl) ?_
      refine va_get (D := D) (ci := 7) (v := .int t_tide) (C := RX7) (T := TX7) (N := 9) hx hb hts iX7_tideFrom_X7 hown hK.1 hP 0 rfl rfl 7 (by decide) (hts _ fX7_tideFrom_34) (fun _ h9 => h9) rfl dX7_tideFrom_29 ?_
      refine lv_iadd hx hb dX7_tideFrom_32 ?_
      refine lv_iload_n hx hb dX7_tideFrom_33 rfl (lv_at hl 0 rfl) ?_
      refine lv_isub hx hb dX7_tideFrom_34 ?_
      have hP9 := hP.sub (ws' := [(a_t, .inr (7, [.int t_places, .ref a_t_house, .ref a_t_view, .int t_skins, .ref a_t_girth, .ref a_t_kind, .int t_smoke, .int t_tide, .ref a_t_hiding]))]) [0] rfl
      have hD9 := hD.sub (ws' := [(a_t, .inr (7, [.int t_places, .ref a_t_house, .ref a_t_view, .int t_skins, .ref a_t_girth, .ref a_t_kind, .int t_smoke, .int t_tide, .ref a_t_hiding]))]) [0] (by decide) rfl
      exact W.iret (v := ((x1 + t_tide) - (x1 - x1 / t_tide * t_tide))) hx hb hr (fun t ht hW => ⟨⟨((x1 + t_tide) - (x1 - x1 / t_tide * t_tide)), (), rfl, hw, by rw [ht]; exact hP9, hD9⟩, hS.F ht⟩) hS.2.2 dX7_tideFrom_35
    · replace hw := hw.2 c_2
      refine lv_iload_n hx hb dX7_tideFrom_23 rfl (lv_at hl 2 rfl) ?_
      refine lv_goto (tgt := 35) hx hb dX7_tideFrom_24 (by decide) ?_
      have hP9 := hP.sub (ws' := [(a_t, .inr (7, [.int t_places, .ref a_t_house, .ref a_t_view, .int t_skins, .ref a_t_girth, .ref a_t_kind, .int t_smoke, .int t_tide, .ref a_t_hiding]))]) [0] rfl
      have hD9 := hD.sub (ws' := [(a_t, .inr (7, [.int t_places, .ref a_t_house, .ref a_t_view, .int t_skins, .ref a_t_girth, .ref a_t_kind, .int t_smoke, .int t_tide, .ref a_t_hiding]))]) [0] (by decide) rfl
      exact W.iret (v := x1) hx hb hr (fun t ht hW => ⟨⟨x1, (), rfl, hw, by rw [ht]; exact hP9, hD9⟩, hS.F ht⟩) hS.2.2 dX7_tideFrom_35
  · replace hw := hw.2 c_1
    refine lv_iconst (v := 0) hx hb dX7_tideFrom_8 (by decide) ?_
    refine lv_goto (tgt := 18) hx hb dX7_tideFrom_9 (by decide) ?_
    refine lv_istore_n (lv' := [(2, .int 0), (0, .ref a_t), (1, .int x1)]) hx hb dX7_tideFrom_18 rfl hl (by decide) rfl (fun ls hl => ?_)
    refine lv_iload_n hx hb dX7_tideFrom_19 rfl (lv_at hl 0 rfl) ?_
    refine lv_if_ne (tgt := 27) hx hb dX7_tideFrom_20 (by decide) (fun c_ => absurd c_ (by decide)) (fun _ => ?_)
    refine lv_iload_n hx hb dX7_tideFrom_23 rfl (lv_at hl 2 rfl) ?_
    refine lv_goto (tgt := 35) hx hb dX7_tideFrom_24 (by decide) ?_
    have hP9 := hP.sub (ws' := [(a_t, .inr (7, [.int t_places, .ref a_t_house, .ref a_t_view, .int t_skins, .ref a_t_girth, .ref a_t_kind, .int t_smoke, .int t_tide, .ref a_t_hiding]))]) [0] rfl
    have hD9 := hD.sub (ws' := [(a_t, .inr (7, [.int t_places, .ref a_t_house, .ref a_t_view, .int t_skins, .ref a_t_girth, .ref a_t_kind, .int t_smoke, .int t_tide, .ref a_t_hiding]))]) [0] (by decide) rfl
    exact W.iret (v := x1) hx hb hr (fun t ht hW => ⟨⟨x1, (), rfl, hw, by rw [ht]; exact hP9, hD9⟩, hS.F ht⟩) hS.2.2 dX7_tideFrom_35

theorem fX7_afterFro_9 : Cond.fieldLink RX7 9 "SkinInRafters$Town" "places" "I" ∈ wsX7_afterFro := by decide +kernel
theorem iX7_afterFro_X7 : ∀ w ∈ wsX70, w ∈ wsX7_afterFro := by decide +kernel
def pX7_afterFro (t_places : Int32) (x1 : Int32) (x2 : Int32) (K : Int32 → Prop) : Prop :=
  (2 ≤ t_places → ((x2 = 0 → (K (x1 + 1))) ∧ (¬ (x2 = 0) → (K (x1 - 1))))) ∧ (¬ (2 ≤ t_places) → (K x1))
set_option maxHeartbeats 4000000 in
set_option maxRecDepth 100000 in
theorem mX7_afterFro {l : Launch} {D : va_G} {tc : Nat → ClassId} {sz : Nat} {a_t a_t_house a_t_view a_t_girth a_t_kind a_t_hiding : Nat} {t_places : Int32} {t_skins : Int32} {t_smoke : Int32} {t_tide : Int32} {x1 : Int32} {x2 : Int32} {K : Int32 → Prop} (hw : pX7_afterFro t_places x1 x2 K) : Met l yX7_afterFro wsX7_afterFro ({ frames := 0, cells := 0, slots := 0, locals := 0 } : Room) (va_Pc [.ref a_t, .int x1, .int x2] (wpre D tc [(a_t, .inr (7, [.int t_places, .ref a_t_house, .ref a_t_view, .int t_skins, .ref a_t_girth, .ref a_t_kind, .int t_smoke, .int t_tide, .ref a_t_hiding]))] sz)) (va_Qi (S := Unit) (fun (r : Int32) (u : Unit) => K r ) (fun u => wpost D (va_A [(a_t, .inr (7, [.int t_places, .ref a_t_house, .ref a_t_view, .int t_skins, .ref a_t_girth, .ref a_t_kind, .int t_smoke, .int t_tide, .ref a_t_hiding]))] sz) [(a_t, .inr (7, [.int t_places, .ref a_t_house, .ref a_t_view, .int t_skins, .ref a_t_girth, .ref a_t_kind, .int t_smoke, .int t_tide, .ref a_t_hiding]))]) (va_A [(a_t, .inr (7, [.int t_places, .ref a_t_house, .ref a_t_view, .int t_skins, .ref a_t_girth, .ref a_t_kind, .int t_smoke, .int t_tide, .ref a_t_hiding]))] sz)) 0 0 (va_A [(a_t, .inr (7, [.int t_places, .ref a_t_house, .ref a_t_view, .int t_skins, .ref a_t_girth, .ref a_t_kind, .int t_smoke, .int t_tide, .ref a_t_hiding]))] sz) := by
  refine Met.ofW (cc := cX7_afterFro) (maxL := 3) (ret := (some .int)) (by decide) rfl ?_
  intro p e s m args below meth c s₁ B hml hv
  obtain ⟨rfl, hsz, hP, hK, hD0⟩ := hv
  have hx := B.exec
  have hb := B.bytes
  have hr := B.returns
  have hts := atoms_spec (ws := wsX7_afterFro) B.pre
  have hown : s.vm.findClass RX7 = some m.cls := findClass_of_methodNamed B.named
  have hlocks := B.notSynchronized
  subst hsz
  have hD := hD0.self (sz := s.heap.size)
  generalize hAe : va_A [(a_t, .inr (7, [.int t_places, .ref a_t_house, .ref a_t_view, .int t_skins, .ref a_t_girth, .ref a_t_kind, .int t_smoke, .int t_tide, .ref a_t_hiding]))] s.heap.size = A at hD ⊢
  have hA : ∀ q : Nat, s.heap.size ≤ q → A q := fun q h => by rw [← hAe]; exact Or.inr h
  have C0 : cx p s m _ c RX7 cX7_afterFro 3 wsX7_afterFro D tc A := ⟨hx, hb, hml, hown, hts, hK, hA⟩
  have hS : va_S A s.heap s.heap [] := va_S.rf
  have hP : va_P D vwCl [(a_t, .inr (7, [.int t_places, .ref a_t_house, .ref a_t_view, .int t_skins, .ref a_t_girth, .ref a_t_kind, .int t_smoke, .int t_tide, .ref a_t_hiding]))] s.heap := hP
  have hl := lv_entry ([.ref a_t, .int x1, .int x2]) (n := 3) (Nat.le_of_ble_eq_true rfl)
  rw [lg_entry_eq]
  generalize (lg_sl ([.ref a_t, .int x1, .int x2]) ++ List.replicate (3 - (lg_sl ([.ref a_t, .int x1, .int x2])).length) Slot.unset).toArray = ls at hl ⊢
  have hl : lv_has ls 3 [(0, .ref a_t), (1, .int x1), (2, .int x2)] := hl
  suffices hsf : ∀ H : Heap, H = s.heap → W p l e _ s m _ below meth c H [] 0 0 _ _ from hsf _ rfl
  intro H hHe
  have hS : va_S A s.heap H [] := by rw [hHe]; exact hS
  have hP : va_P D vwCl [(a_t, .inr (7, [.int t_places, .ref a_t_house, .ref a_t_view, .int t_skins, .ref a_t_girth, .ref a_t_kind, .int t_smoke, .int t_tide, .ref a_t_hiding]))] H := by rw [hHe]; exact hP
  unfold pX7_afterFro at hw
  refine lv_aload_n hx hb dX7_afterFro_0 rfl (lv_at hl 0 rfl) ?_
  refine va_get (D := D) (ci := 7) (v := .int t_places) (C := RX7) (T := TX7) (N := 9) hx hb hts iX7_afterFro_X7 hown hK.1 hP 0 rfl rfl 0 (by decide) (hts _ fX7_afterFro_9) (fun _ h9 => h9) rfl dX7_afterFro_1 ?_
  refine lv_iconst (v := 2) hx hb dX7_afterFro_4 (by decide) ?_
  refine lv_icmp_ge (tgt := 10) hx hb dX7_afterFro_5 (by decide) (fun c_1 => ?_) (fun c_1 => ?_)
  · replace hw := hw.1 c_1
    refine lv_iload_n hx hb dX7_afterFro_10 rfl (lv_at hl 2 rfl) ?_
    refine lv_if_eq (tgt := 20) hx hb dX7_afterFro_11 (by decide) (fun c_2 => ?_) (fun c_2 => ?_)
    · replace hw := hw.1 c_2
      refine lv_iload_n hx hb dX7_afterFro_20 rfl (lv_at hl 1 rfl) ?_
      refine lv_iconst (v := 1) hx hb dX7_afterFro_21 (by decide) ?_
      refine lv_iadd hx hb dX7_afterFro_22 ?_
      have hP9 := hP.sub (ws' := [(a_t, .inr (7, [.int t_places, .ref a_t_house, .ref a_t_view, .int t_skins, .ref a_t_girth, .ref a_t_kind, .int t_smoke, .int t_tide, .ref a_t_hiding]))]) [0] rfl
      have hD9 := hD.sub (ws' := [(a_t, .inr (7, [.int t_places, .ref a_t_house, .ref a_t_view, .int t_skins, .ref a_t_girth, .ref a_t_kind, .int t_smoke, .int t_tide, .ref a_t_hiding]))]) [0] (by decide) rfl
      exact W.iret (v := (x1 + 1)) hx hb hr (fun t ht hW => ⟨⟨(x1 + 1), (), rfl, hw, by rw [ht]; exact hP9, hD9⟩, hS.F ht⟩) hS.2.2 dX7_afterFro_23
    · replace hw := hw.2 c_2
      refine lv_iload_n hx hb dX7_afterFro_14 rfl (lv_at hl 1 rfl) ?_
      refine lv_iconst (v := 1) hx hb dX7_afterFro_15 (by decide) ?_
      refine lv_isub hx hb dX7_afterFro_16 ?_
      refine lv_goto (tgt := 23) hx hb dX7_afterFro_17 (by decide) ?_
      have hP9 := hP.sub (ws' := [(a_t, .inr (7, [.int t_places, .ref a_t_house, .ref a_t_view, .int t_skins, .ref a_t_girth, .ref a_t_kind, .int t_smoke, .int t_tide, .ref a_t_hiding]))]) [0] rfl
      have hD9 := hD.sub (ws' := [(a_t, .inr (7, [.int t_places, .ref a_t_house, .ref a_t_view, .int t_skins, .ref a_t_girth, .ref a_t_kind, .int t_smoke, .int t_tide, .ref a_t_hiding]))]) [0] (by decide) rfl
      exact W.iret (v := (x1 - 1)) hx hb hr (fun t ht hW => ⟨⟨(x1 - 1), (), rfl, hw, by rw [ht]; exact hP9, hD9⟩, hS.F ht⟩) hS.2.2 dX7_afterFro_23
  · replace hw := hw.2 c_1
    refine lv_iload_n hx hb dX7_afterFro_8 rfl (lv_at hl 1 rfl) ?_
    have hP9 := hP.sub (ws' := [(a_t, .inr (7, [.int t_places, .ref a_t_house, .ref a_t_view, .int t_skins, .ref a_t_girth, .ref a_t_kind, .int t_smoke, .int t_tide, .ref a_t_hiding]))]) [0] rfl
    have hD9 := hD.sub (ws' := [(a_t, .inr (7, [.int t_places, .ref a_t_house, .ref a_t_view, .int t_skins, .ref a_t_girth, .ref a_t_kind, .int t_smoke, .int t_tide, .ref a_t_hiding]))]) [0] (by decide) rfl
    exact W.iret (v := x1) hx hb hr (fun t ht hW => ⟨⟨x1, (), rfl, hw, by rw [ht]; exact hP9, hD9⟩, hS.F ht⟩) hS.2.2 dX7_afterFro_9

theorem fX7_afterNext_9 : Cond.fieldLink RX7 9 "SkinInRafters$Town" "places" "I" ∈ wsX7_afterNext := by decide +kernel
theorem iX7_afterNext_X7 : ∀ w ∈ wsX70, w ∈ wsX7_afterNext := by decide +kernel
def pX7_afterNext (t_places : Int32) (x1 : Int32) (K : Int32 → Prop) : Prop :=
  (t_places ≤ (x1 + 1) → (K 0)) ∧ (¬ (t_places ≤ (x1 + 1)) → (K (x1 + 1)))
set_option maxHeartbeats 4000000 in
set_option maxRecDepth 100000 in
theorem mX7_afterNext {l : Launch} {D : va_G} {tc : Nat → ClassId} {sz : Nat} {a_t a_t_house a_t_view a_t_girth a_t_kind a_t_hiding : Nat} {t_places : Int32} {t_skins : Int32} {t_smoke : Int32} {t_tide : Int32} {x1 : Int32} {K : Int32 → Prop} (hw : pX7_afterNext t_places x1 K) : Met l yX7_afterNext wsX7_afterNext ({ frames := 0, cells := 0, slots := 0, locals := 0 } : Room) (va_Pc [.ref a_t, .int x1] (wpre D tc [(a_t, .inr (7, [.int t_places, .ref a_t_house, .ref a_t_view, .int t_skins, .ref a_t_girth, .ref a_t_kind, .int t_smoke, .int t_tide, .ref a_t_hiding]))] sz)) (va_Qi (S := Unit) (fun (r : Int32) (u : Unit) => K r ) (fun u => wpost D (va_A [(a_t, .inr (7, [.int t_places, .ref a_t_house, .ref a_t_view, .int t_skins, .ref a_t_girth, .ref a_t_kind, .int t_smoke, .int t_tide, .ref a_t_hiding]))] sz) [(a_t, .inr (7, [.int t_places, .ref a_t_house, .ref a_t_view, .int t_skins, .ref a_t_girth, .ref a_t_kind, .int t_smoke, .int t_tide, .ref a_t_hiding]))]) (va_A [(a_t, .inr (7, [.int t_places, .ref a_t_house, .ref a_t_view, .int t_skins, .ref a_t_girth, .ref a_t_kind, .int t_smoke, .int t_tide, .ref a_t_hiding]))] sz)) 0 0 (va_A [(a_t, .inr (7, [.int t_places, .ref a_t_house, .ref a_t_view, .int t_skins, .ref a_t_girth, .ref a_t_kind, .int t_smoke, .int t_tide, .ref a_t_hiding]))] sz) := by
  refine Met.ofW (cc := cX7_afterNext) (maxL := 2) (ret := (some .int)) (by decide) rfl ?_
  intro p e s m args below meth c s₁ B hml hv
  obtain ⟨rfl, hsz, hP, hK, hD0⟩ := hv
  have hx := B.exec
  have hb := B.bytes
  have hr := B.returns
  have hts := atoms_spec (ws := wsX7_afterNext) B.pre
  have hown : s.vm.findClass RX7 = some m.cls := findClass_of_methodNamed B.named
  have hlocks := B.notSynchronized
  subst hsz
  have hD := hD0.self (sz := s.heap.size)
  generalize hAe : va_A [(a_t, .inr (7, [.int t_places, .ref a_t_house, .ref a_t_view, .int t_skins, .ref a_t_girth, .ref a_t_kind, .int t_smoke, .int t_tide, .ref a_t_hiding]))] s.heap.size = A at hD ⊢
  have hA : ∀ q : Nat, s.heap.size ≤ q → A q := fun q h => by rw [← hAe]; exact Or.inr h
  have C0 : cx p s m _ c RX7 cX7_afterNext 2 wsX7_afterNext D tc A := ⟨hx, hb, hml, hown, hts, hK, hA⟩
  have hS : va_S A s.heap s.heap [] := va_S.rf
  have hP : va_P D vwCl [(a_t, .inr (7, [.int t_places, .ref a_t_house, .ref a_t_view, .int t_skins, .ref a_t_girth, .ref a_t_kind, .int t_smoke, .int t_tide, .ref a_t_hiding]))] s.heap := hP
  have hl := lv_entry ([.ref a_t, .int x1]) (n := 2) (Nat.le_of_ble_eq_true rfl)
  rw [lg_entry_eq]
  generalize (lg_sl ([.ref a_t, .int x1]) ++ List.replicate (2 - (lg_sl ([.ref a_t, .int x1])).length) Slot.unset).toArray = ls at hl ⊢
  have hl : lv_has ls 2 [(0, .ref a_t), (1, .int x1)] := hl
  suffices hsf : ∀ H : Heap, H = s.heap → W p l e _ s m _ below meth c H [] 0 0 _ _ from hsf _ rfl
  intro H hHe
  have hS : va_S A s.heap H [] := by rw [hHe]; exact hS
  have hP : va_P D vwCl [(a_t, .inr (7, [.int t_places, .ref a_t_house, .ref a_t_view, .int t_skins, .ref a_t_girth, .ref a_t_kind, .int t_smoke, .int t_tide, .ref a_t_hiding]))] H := by rw [hHe]; exact hP
  unfold pX7_afterNext at hw
  refine lv_iload_n hx hb dX7_afterNext_0 rfl (lv_at hl 1 rfl) ?_
  refine lv_iconst (v := 1) hx hb dX7_afterNext_1 (by decide) ?_
  refine lv_iadd hx hb dX7_afterNext_2 ?_
  refine lv_aload_n hx hb dX7_afterNext_3 rfl (lv_at hl 0 rfl) ?_
  refine va_get (D := D) (ci := 7) (v := .int t_places) (C := RX7) (T := TX7) (N := 9) hx hb hts iX7_afterNext_X7 hown hK.1 hP 0 rfl rfl 0 (by decide) (hts _ fX7_afterNext_9) (fun _ h9 => h9) rfl dX7_afterNext_4 ?_
  refine lv_icmp_ge (tgt := 16) hx hb dX7_afterNext_7 (by decide) (fun c_1 => ?_) (fun c_1 => ?_)
  · replace hw := hw.1 c_1
    refine lv_iconst (v := 0) hx hb dX7_afterNext_16 (by decide) ?_
    have hP9 := hP.sub (ws' := [(a_t, .inr (7, [.int t_places, .ref a_t_house, .ref a_t_view, .int t_skins, .ref a_t_girth, .ref a_t_kind, .int t_smoke, .int t_tide, .ref a_t_hiding]))]) [0] rfl
    have hD9 := hD.sub (ws' := [(a_t, .inr (7, [.int t_places, .ref a_t_house, .ref a_t_view, .int t_skins, .ref a_t_girth, .ref a_t_kind, .int t_smoke, .int t_tide, .ref a_t_hiding]))]) [0] (by decide) rfl
    exact W.iret (v := 0) hx hb hr (fun t ht hW => ⟨⟨0, (), rfl, hw, by rw [ht]; exact hP9, hD9⟩, hS.F ht⟩) hS.2.2 dX7_afterNext_17
  · replace hw := hw.2 c_1
    refine lv_iload_n hx hb dX7_afterNext_10 rfl (lv_at hl 1 rfl) ?_
    refine lv_iconst (v := 1) hx hb dX7_afterNext_11 (by decide) ?_
    refine lv_iadd hx hb dX7_afterNext_12 ?_
    refine lv_goto (tgt := 17) hx hb dX7_afterNext_13 (by decide) ?_
    have hP9 := hP.sub (ws' := [(a_t, .inr (7, [.int t_places, .ref a_t_house, .ref a_t_view, .int t_skins, .ref a_t_girth, .ref a_t_kind, .int t_smoke, .int t_tide, .ref a_t_hiding]))]) [0] rfl
    have hD9 := hD.sub (ws' := [(a_t, .inr (7, [.int t_places, .ref a_t_house, .ref a_t_view, .int t_skins, .ref a_t_girth, .ref a_t_kind, .int t_smoke, .int t_tide, .ref a_t_hiding]))]) [0] (by decide) rfl
    exact W.iret (v := (x1 + 1)) hx hb hr (fun t ht hW => ⟨⟨(x1 + 1), (), rfl, hw, by rw [ht]; exact hP9, hD9⟩, hS.F ht⟩) hS.2.2 dX7_afterNext_17

theorem fX7_lowestBeside_15 : Cond.fieldLink RX7 15 "SkinInRafters$Town" "house" "[I" ∈ wsX7_lowestBeside := by decide +kernel
theorem iX7_lowestBeside_X7 : ∀ w ∈ wsX70, w ∈ wsX7_lowestBeside := by decide +kernel
def pX7_lowestBeside_B2 (x1 : Int32) (f_t_house : Nat → Int32) (K22 : Int32 → Prop) (K30 : Prop) (rec : Int32 → Prop) (x2 : Int32) : Prop :=
  (x1 ≤ x2 → (K30)) ∧ (¬ (x1 ≤ x2) → (vp_in x2 9 ∧ (vp_in x1 9 ∧ ((¬ (f_t_house x2.toNatClampNeg) = (f_t_house x1.toNatClampNeg) → (rec (x2 + 1))) ∧ ((f_t_house x2.toNatClampNeg) = (f_t_house x1.toNatClampNeg) → (K22 x2))))))
def pX7_lowestBeside (f_t_house : Nat → Int32) (x1 : Int32) (K : Int32 → Prop) : Prop :=
  ∃ n_ : Nat, it1 (pX7_lowestBeside_B2 x1 f_t_house (fun (x2_5 : Int32) => (K x2_5)) (K x1)) n_ 0
set_option maxHeartbeats 4000000 in
set_option maxRecDepth 100000 in
theorem lX7_lowestBeside_2 {p : Program} {l : Launch} {e : Env} {s : State} {m : MethodId} {args : Array Value} {below : List Frame} {meth : Method} {c : Code} {D : va_G} {tc : Nat → ClassId} {A : Nat → Prop} {Q : State → Prop} (C0 : cx p s m args c RX7 cX7_lowestBeside 3 wsX7_lowestBeside D tc A) {a_t a_t_house a_t_view a_t_girth a_t_kind a_t_hiding : Nat}  {x1 : Int32} {t_places : Int32} {t_skins : Int32} {t_smoke : Int32} {t_tide : Int32} {f_t_house : Nat → Int32} {K22 : Int32 → Prop} {K30 : Prop} :
    ∀ (n_ : Nat) (x2 : Int32), it1 (pX7_lowestBeside_B2 x1 f_t_house K22 K30) n_ x2 → ∀ (H : Heap) (locs : List Loc) (ls : Array Slot), va_P D vwCl [(a_t, .inr (7, [.int t_places, .ref a_t_house, .ref a_t_view, .int t_skins, .ref a_t_girth, .ref a_t_kind, .int t_smoke, .int t_tide, .ref a_t_hiding])), (a_t_house, .inl (tc 0, 9, .inl f_t_house))] H → va_D A [(a_t, .inr (7, [.int t_places, .ref a_t_house, .ref a_t_view, .int t_skins, .ref a_t_girth, .ref a_t_kind, .int t_smoke, .int t_tide, .ref a_t_hiding])), (a_t_house, .inl (tc 0, 9, .inl f_t_house))] → va_S A s.heap H locs → lv_has ls 3 [(0, .ref a_t), (1, .int x1), (2, .int x2)] → (∀ (z_x2 : Int32), K22 z_x2 → ∀ (H : Heap) (locs : List Loc) (ls : Array Slot), va_P D vwCl [(a_t, .inr (7, [.int t_places, .ref a_t_house, .ref a_t_view, .int t_skins, .ref a_t_girth, .ref a_t_kind, .int t_smoke, .int t_tide, .ref a_t_hiding])), (a_t_house, .inl (tc 0, 9, .inl f_t_house))] H → va_D A [(a_t, .inr (7, [.int t_places, .ref a_t_house, .ref a_t_view, .int t_skins, .ref a_t_girth, .ref a_t_kind, .int t_smoke, .int t_tide, .ref a_t_hiding])), (a_t_house, .inl (tc 0, 9, .inl f_t_house))] → va_S A s.heap H locs → lv_has ls 3 [(2, .int z_x2)] → W p l e ({ frames := 0, cells := 0, slots := 0, locals := 0 } : Room) s m args below meth c H locs 0 0 Q (F0 m 22 ls [])) → ( K30  → ∀ (H : Heap) (locs : List Loc) (ls : Array Slot), va_P D vwCl [(a_t, .inr (7, [.int t_places, .ref a_t_house, .ref a_t_view, .int t_skins, .ref a_t_girth, .ref a_t_kind, .int t_smoke, .int t_tide, .ref a_t_hiding])), (a_t_house, .inl (tc 0, 9, .inl f_t_house))] H → va_D A [(a_t, .inr (7, [.int t_places, .ref a_t_house, .ref a_t_view, .int t_skins, .ref a_t_girth, .ref a_t_kind, .int t_smoke, .int t_tide, .ref a_t_hiding])), (a_t_house, .inl (tc 0, 9, .inl f_t_house))] → va_S A s.heap H locs → lv_has ls 3 [(1, .int x1)] → W p l e ({ frames := 0, cells := 0, slots := 0, locals := 0 } : Room) s m args below meth c H locs 0 0 Q (F0 m 30 ls [])) → W p l e ({ frames := 0, cells := 0, slots := 0, locals := 0 } : Room) s m args below meth c H locs 0 0 Q (F0 m 2 ls []) := by
  obtain ⟨hx, hb, hml, hown, hts, hK, hA⟩ := id C0
  intro n_
  induction n_ with
  | zero =>
    intro x2 hw
    exact False.elim hw
  | succ n_ ih =>
    intro x2 hw H locs ls hP hD hS hl k22 k30
    replace hw : pX7_lowestBeside_B2 x1 f_t_house K22 K30 (it1 (pX7_lowestBeside_B2 x1 f_t_house K22 K30) n_) x2 := hw
    unfold pX7_lowestBeside_B2 at hw
    refine lv_iload_n hx hb dX7_lowestBeside_2 rfl (lv_at hl 2 rfl) ?_
    refine lv_iload_n hx hb dX7_lowestBeside_3 rfl (lv_at hl 1 rfl) ?_
    refine lv_icmp_ge (tgt := 30) hx hb dX7_lowestBeside_4 (by decide) (fun c_3 => ?_) (fun c_3 => ?_)
    · replace hw := hw.1 c_3
      exact k30  hw _ _ _ (hP.sub (ws' := [(a_t, .inr (7, [.int t_places, .ref a_t_house, .ref a_t_view, .int t_skins, .ref a_t_girth, .ref a_t_kind, .int t_smoke, .int t_tide, .ref a_t_hiding])), (a_t_house, .inl (tc 0, 9, .inl f_t_house))]) [0, 1] rfl) (hD.sub (ws' := [(a_t, .inr (7, [.int t_places, .ref a_t_house, .ref a_t_view, .int t_skins, .ref a_t_girth, .ref a_t_kind, .int t_smoke, .int t_tide, .ref a_t_hiding])), (a_t_house, .inl (tc 0, 9, .inl f_t_house))]) [0, 1] (by decide) rfl) hS (lv_sub hl [1] rfl)
    · replace hw := hw.2 c_3
      refine lv_aload_n hx hb dX7_lowestBeside_7 rfl (lv_at hl 0 rfl) ?_
      refine va_get (D := D) (ci := 7) (v := .ref a_t_house) (C := RX7) (T := TX7) (N := 9) hx hb hts iX7_lowestBeside_X7 hown hK.1 hP 0 rfl rfl 1 (by decide) (hts _ fX7_lowestBeside_15) (fun _ h9 => h9) rfl dX7_lowestBeside_8 ?_
      refine lv_iload_n hx hb dX7_lowestBeside_11 rfl (lv_at hl 2 rfl) ?_
      refine va_iald hx hb hK.1 hP 1 0 rfl rfl hw.1 dX7_lowestBeside_12 ?_
      replace hw := hw.2
      refine lv_aload_n hx hb dX7_lowestBeside_13 rfl (lv_at hl 0 rfl) ?_
      refine va_get (D := D) (ci := 7) (v := .ref a_t_house) (C := RX7) (T := TX7) (N := 9) hx hb hts iX7_lowestBeside_X7 hown hK.1 hP 0 rfl rfl 1 (by decide) (hts _ fX7_lowestBeside_15) (fun _ h9 => h9) rfl dX7_lowestBeside_14 ?_
      refine lv_iload_n hx hb dX7_lowestBeside_17 rfl (lv_at hl 1 rfl) ?_
      refine va_iald hx hb hK.1 hP 1 0 rfl rfl hw.1 dX7_lowestBeside_18 ?_
      replace hw := hw.2
      refine lv_icmp_ne (tgt := 24) hx hb dX7_lowestBeside_19 (by decide) (fun c_4 => ?_) (fun c_4 => ?_)
      · replace hw := hw.1 c_4
        refine lv_iinc (v := (x2 + 1)) (lv' := [(2, .int (x2 + 1)), (0, .ref a_t), (1, .int x1)]) hx hb dX7_lowestBeside_24 hl (k := 2) rfl rfl (by decide) rfl (fun ls hl => ?_)
        refine lv_goto (tgt := 2) hx hb dX7_lowestBeside_27 (by decide) ?_
        exact ih _ hw _ _ _ (hP.sub (ws' := [(a_t, .inr (7, [.int t_places, .ref a_t_house, .ref a_t_view, .int t_skins, .ref a_t_girth, .ref a_t_kind, .int t_smoke, .int t_tide, .ref a_t_hiding])), (a_t_house, .inl (tc 0, 9, .inl f_t_house))]) [0, 1] rfl) (hD.sub (ws' := [(a_t, .inr (7, [.int t_places, .ref a_t_house, .ref a_t_view, .int t_skins, .ref a_t_girth, .ref a_t_kind, .int t_smoke, .int t_tide, .ref a_t_hiding])), (a_t_house, .inl (tc 0, 9, .inl f_t_house))]) [0, 1] (by decide) rfl) hS (lv_sub hl [1, 2, 0] rfl) k22 k30
      · replace hw := hw.2 c_4
        exact k22 _ hw _ _ _ (hP.sub (ws' := [(a_t, .inr (7, [.int t_places, .ref a_t_house, .ref a_t_view, .int t_skins, .ref a_t_girth, .ref a_t_kind, .int t_smoke, .int t_tide, .ref a_t_hiding])), (a_t_house, .inl (tc 0, 9, .inl f_t_house))]) [0, 1] rfl) (hD.sub (ws' := [(a_t, .inr (7, [.int t_places, .ref a_t_house, .ref a_t_view, .int t_skins, .ref a_t_girth, .ref a_t_kind, .int t_smoke, .int t_tide, .ref a_t_hiding])), (a_t_house, .inl (tc 0, 9, .inl f_t_house))]) [0, 1] (by decide) rfl) hS (lv_sub hl [2] rfl)
set_option maxHeartbeats 4000000 in
set_option maxRecDepth 100000 in
theorem mX7_lowestBeside {l : Launch} {D : va_G} {tc : Nat → ClassId} {sz : Nat} {a_t a_t_house a_t_view a_t_girth a_t_kind a_t_hiding : Nat} {t_places : Int32} {t_skins : Int32} {t_smoke : Int32} {t_tide : Int32} {f_t_house : Nat → Int32} {x1 : Int32} {K : Int32 → Prop} (hw : pX7_lowestBeside f_t_house x1 K) : Met l yX7_lowestBeside wsX7_lowestBeside ({ frames := 0, cells := 0, slots := 0, locals := 0 } : Room) (va_Pc [.ref a_t, .int x1] (wpre D tc [(a_t, .inr (7, [.int t_places, .ref a_t_house, .ref a_t_view, .int t_skins, .ref a_t_girth, .ref a_t_kind, .int t_smoke, .int t_tide, .ref a_t_hiding])), (a_t_house, .inl (tc 0, 9, .inl f_t_house))] sz)) (va_Qi (S := Unit) (fun (r : Int32) (u : Unit) => K r ) (fun u => wpost D (va_A [(a_t, .inr (7, [.int t_places, .ref a_t_house, .ref a_t_view, .int t_skins, .ref a_t_girth, .ref a_t_kind, .int t_smoke, .int t_tide, .ref a_t_hiding])), (a_t_house, .inl (tc 0, 9, .inl f_t_house))] sz) [(a_t, .inr (7, [.int t_places, .ref a_t_house, .ref a_t_view, .int t_skins, .ref a_t_girth, .ref a_t_kind, .int t_smoke, .int t_tide, .ref a_t_hiding])), (a_t_house, .inl (tc 0, 9, .inl f_t_house))]) (va_A [(a_t, .inr (7, [.int t_places, .ref a_t_house, .ref a_t_view, .int t_skins, .ref a_t_girth, .ref a_t_kind, .int t_smoke, .int t_tide, .ref a_t_hiding])), (a_t_house, .inl (tc 0, 9, .inl f_t_house))] sz)) 0 0 (va_A [(a_t, .inr (7, [.int t_places, .ref a_t_house, .ref a_t_view, .int t_skins, .ref a_t_girth, .ref a_t_kind, .int t_smoke, .int t_tide, .ref a_t_hiding])), (a_t_house, .inl (tc 0, 9, .inl f_t_house))] sz) := by
  refine Met.ofW (cc := cX7_lowestBeside) (maxL := 3) (ret := (some .int)) (by decide) rfl ?_
  intro p e s m args below meth c s₁ B hml hv
  obtain ⟨rfl, hsz, hP, hK, hD0⟩ := hv
  have hx := B.exec
  have hb := B.bytes
  have hr := B.returns
  have hts := atoms_spec (ws := wsX7_lowestBeside) B.pre
  have hown : s.vm.findClass RX7 = some m.cls := findClass_of_methodNamed B.named
  have hlocks := B.notSynchronized
  subst hsz
  have hD := hD0.self (sz := s.heap.size)
  generalize hAe : va_A [(a_t, .inr (7, [.int t_places, .ref a_t_house, .ref a_t_view, .int t_skins, .ref a_t_girth, .ref a_t_kind, .int t_smoke, .int t_tide, .ref a_t_hiding])), (a_t_house, .inl (tc 0, 9, .inl f_t_house))] s.heap.size = A at hD ⊢
  have hA : ∀ q : Nat, s.heap.size ≤ q → A q := fun q h => by rw [← hAe]; exact Or.inr h
  have C0 : cx p s m _ c RX7 cX7_lowestBeside 3 wsX7_lowestBeside D tc A := ⟨hx, hb, hml, hown, hts, hK, hA⟩
  have hS : va_S A s.heap s.heap [] := va_S.rf
  have hP : va_P D vwCl [(a_t, .inr (7, [.int t_places, .ref a_t_house, .ref a_t_view, .int t_skins, .ref a_t_girth, .ref a_t_kind, .int t_smoke, .int t_tide, .ref a_t_hiding])), (a_t_house, .inl (tc 0, 9, .inl f_t_house))] s.heap := hP
  have hl := lv_entry ([.ref a_t, .int x1]) (n := 3) (Nat.le_of_ble_eq_true rfl)
  rw [lg_entry_eq]
  generalize (lg_sl ([.ref a_t, .int x1]) ++ List.replicate (3 - (lg_sl ([.ref a_t, .int x1])).length) Slot.unset).toArray = ls at hl ⊢
  have hl : lv_has ls 3 [(0, .ref a_t), (1, .int x1)] := hl
  suffices hsf : ∀ H : Heap, H = s.heap → W p l e _ s m _ below meth c H [] 0 0 _ _ from hsf _ rfl
  intro H hHe
  have hS : va_S A s.heap H [] := by rw [hHe]; exact hS
  have hP : va_P D vwCl [(a_t, .inr (7, [.int t_places, .ref a_t_house, .ref a_t_view, .int t_skins, .ref a_t_girth, .ref a_t_kind, .int t_smoke, .int t_tide, .ref a_t_hiding])), (a_t_house, .inl (tc 0, 9, .inl f_t_house))] H := by rw [hHe]; exact hP
  unfold pX7_lowestBeside at hw
  refine lv_iconst (v := 0) hx hb dX7_lowestBeside_0 (by decide) ?_
  refine lv_istore_n (lv' := [(2, .int 0), (0, .ref a_t), (1, .int x1)]) hx hb dX7_lowestBeside_1 rfl hl (by decide) rfl (fun ls hl => ?_)
  obtain ⟨n_, hw⟩ := hw
  refine lX7_lowestBeside_2 C0 n_ _ hw _ _ _ (hP.sub (ws' := [(a_t, .inr (7, [.int t_places, .ref a_t_house, .ref a_t_view, .int t_skins, .ref a_t_girth, .ref a_t_kind, .int t_smoke, .int t_tide, .ref a_t_hiding])), (a_t_house, .inl (tc 0, 9, .inl f_t_house))]) [0, 1] rfl) (hD.sub (ws' := [(a_t, .inr (7, [.int t_places, .ref a_t_house, .ref a_t_view, .int t_skins, .ref a_t_girth, .ref a_t_kind, .int t_smoke, .int t_tide, .ref a_t_hiding])), (a_t_house, .inl (tc 0, 9, .inl f_t_house))]) [0, 1] (by decide) rfl) hS (lv_sub hl [1, 2, 0] rfl) (fun x2_5 hw H locs ls hP hD hS hl => ?_) (fun  hw H locs ls hP hD hS hl => ?_)
  · refine lv_iload_n hx hb dX7_lowestBeside_22 rfl (lv_at hl 0 rfl) ?_
    have hP9 := hP.sub (ws' := [(a_t, .inr (7, [.int t_places, .ref a_t_house, .ref a_t_view, .int t_skins, .ref a_t_girth, .ref a_t_kind, .int t_smoke, .int t_tide, .ref a_t_hiding])), (a_t_house, .inl (tc 0, 9, .inl f_t_house))]) [0, 1] rfl
    have hD9 := hD.sub (ws' := [(a_t, .inr (7, [.int t_places, .ref a_t_house, .ref a_t_view, .int t_skins, .ref a_t_girth, .ref a_t_kind, .int t_smoke, .int t_tide, .ref a_t_hiding])), (a_t_house, .inl (tc 0, 9, .inl f_t_house))]) [0, 1] (by decide) rfl
    exact W.iret (v := x2_5) hx hb hr (fun t ht hW => ⟨⟨x2_5, (), rfl, hw, by rw [ht]; exact hP9, hD9⟩, hS.F ht⟩) hS.2.2 dX7_lowestBeside_23
  · refine lv_iload_n hx hb dX7_lowestBeside_30 rfl (lv_at hl 0 rfl) ?_
    have hP9 := hP.sub (ws' := [(a_t, .inr (7, [.int t_places, .ref a_t_house, .ref a_t_view, .int t_skins, .ref a_t_girth, .ref a_t_kind, .int t_smoke, .int t_tide, .ref a_t_hiding])), (a_t_house, .inl (tc 0, 9, .inl f_t_house))]) [0, 1] rfl
    have hD9 := hD.sub (ws' := [(a_t, .inr (7, [.int t_places, .ref a_t_house, .ref a_t_view, .int t_skins, .ref a_t_girth, .ref a_t_kind, .int t_smoke, .int t_tide, .ref a_t_hiding])), (a_t_house, .inl (tc 0, 9, .inl f_t_house))]) [0, 1] (by decide) rfl
    exact W.iret (v := x1) hx hb hr (fun t ht hW => ⟨⟨x1, (), rfl, hw, by rw [ht]; exact hP9, hD9⟩, hS.F ht⟩) hS.2.2 dX7_lowestBeside_31

def pX7_afterNight (t_places : Int32) (f_t_house : Nat → Int32) (x1 : Int32) (x2 : Int32) (K : Int32 → Prop) : Prop :=
  (x2 = (1 : Int32) → (pX7_afterNext t_places x1 (fun (r_1 : Int32) => (K r_1)))) ∧ (x2 = (3 : Int32) → (pX7_lowestBeside f_t_house x1 (fun (r_2 : Int32) => ((x1 ≤ r_2 → (pX7_afterNext t_places x1 (fun (r_4 : Int32) => (K r_4)))) ∧ (¬ (x1 ≤ r_2) → (pX7_lowestBeside f_t_house x1 (fun (r_5 : Int32) => (K r_5)))))))) ∧ (¬ x2 = (1 : Int32) → ¬ x2 = (3 : Int32) → (K x1))
set_option maxHeartbeats 4000000 in
set_option maxRecDepth 100000 in
theorem mX7_afterNight {l : Launch} {D : va_G} {tc : Nat → ClassId} {sz : Nat} {a_t a_t_house a_t_view a_t_girth a_t_kind a_t_hiding : Nat} {t_places : Int32} {t_skins : Int32} {t_smoke : Int32} {t_tide : Int32} {f_t_house : Nat → Int32} {x1 : Int32} {x2 : Int32} {K : Int32 → Prop} (hw : pX7_afterNight t_places f_t_house x1 x2 K) : Met l yX7_afterNight wsX7_afterNight ({ frames := 1, cells := 0, slots := 0, locals := 22 } : Room) (va_Pc [.ref a_t, .int x1, .int x2] (wpre D tc [(a_t, .inr (7, [.int t_places, .ref a_t_house, .ref a_t_view, .int t_skins, .ref a_t_girth, .ref a_t_kind, .int t_smoke, .int t_tide, .ref a_t_hiding])), (a_t_house, .inl (tc 0, 9, .inl f_t_house))] sz)) (va_Qi (S := Unit) (fun (r : Int32) (u : Unit) => K r ) (fun u => wpost D (va_A [(a_t, .inr (7, [.int t_places, .ref a_t_house, .ref a_t_view, .int t_skins, .ref a_t_girth, .ref a_t_kind, .int t_smoke, .int t_tide, .ref a_t_hiding])), (a_t_house, .inl (tc 0, 9, .inl f_t_house))] sz) [(a_t, .inr (7, [.int t_places, .ref a_t_house, .ref a_t_view, .int t_skins, .ref a_t_girth, .ref a_t_kind, .int t_smoke, .int t_tide, .ref a_t_hiding])), (a_t_house, .inl (tc 0, 9, .inl f_t_house))]) (va_A [(a_t, .inr (7, [.int t_places, .ref a_t_house, .ref a_t_view, .int t_skins, .ref a_t_girth, .ref a_t_kind, .int t_smoke, .int t_tide, .ref a_t_hiding])), (a_t_house, .inl (tc 0, 9, .inl f_t_house))] sz)) 0 0 (va_A [(a_t, .inr (7, [.int t_places, .ref a_t_house, .ref a_t_view, .int t_skins, .ref a_t_girth, .ref a_t_kind, .int t_smoke, .int t_tide, .ref a_t_hiding])), (a_t_house, .inl (tc 0, 9, .inl f_t_house))] sz) := by
  refine Met.ofW (cc := cX7_afterNight) (maxL := 3) (ret := (some .int)) (by decide) rfl ?_
  intro p e s m args below meth c s₁ B hml hv
  obtain ⟨rfl, hsz, hP, hK, hD0⟩ := hv
  have hx := B.exec
  have hb := B.bytes
  have hr := B.returns
  have hts := atoms_spec (ws := wsX7_afterNight) B.pre
  have hown : s.vm.findClass RX7 = some m.cls := findClass_of_methodNamed B.named
  have hlocks := B.notSynchronized
  subst hsz
  have hD := hD0.self (sz := s.heap.size)
  generalize hAe : va_A [(a_t, .inr (7, [.int t_places, .ref a_t_house, .ref a_t_view, .int t_skins, .ref a_t_girth, .ref a_t_kind, .int t_smoke, .int t_tide, .ref a_t_hiding])), (a_t_house, .inl (tc 0, 9, .inl f_t_house))] s.heap.size = A at hD ⊢
  have hA : ∀ q : Nat, s.heap.size ≤ q → A q := fun q h => by rw [← hAe]; exact Or.inr h
  have C0 : cx p s m _ c RX7 cX7_afterNight 3 wsX7_afterNight D tc A := ⟨hx, hb, hml, hown, hts, hK, hA⟩
  have hS : va_S A s.heap s.heap [] := va_S.rf
  have hP : va_P D vwCl [(a_t, .inr (7, [.int t_places, .ref a_t_house, .ref a_t_view, .int t_skins, .ref a_t_girth, .ref a_t_kind, .int t_smoke, .int t_tide, .ref a_t_hiding])), (a_t_house, .inl (tc 0, 9, .inl f_t_house))] s.heap := hP
  have hl := lv_entry ([.ref a_t, .int x1, .int x2]) (n := 3) (Nat.le_of_ble_eq_true rfl)
  rw [lg_entry_eq]
  generalize (lg_sl ([.ref a_t, .int x1, .int x2]) ++ List.replicate (3 - (lg_sl ([.ref a_t, .int x1, .int x2])).length) Slot.unset).toArray = ls at hl ⊢
  have hl : lv_has ls 3 [(0, .ref a_t), (1, .int x1), (2, .int x2)] := hl
  suffices hsf : ∀ H : Heap, H = s.heap → W p l e _ s m _ below meth c H [] 0 0 _ _ from hsf _ rfl
  intro H hHe
  have hS : va_S A s.heap H [] := by rw [hHe]; exact hS
  have hP : va_P D vwCl [(a_t, .inr (7, [.int t_places, .ref a_t_house, .ref a_t_view, .int t_skins, .ref a_t_girth, .ref a_t_kind, .int t_smoke, .int t_tide, .ref a_t_hiding])), (a_t_house, .inl (tc 0, 9, .inl f_t_house))] H := by rw [hHe]; exact hP
  unfold pX7_afterNight at hw
  refine lv_iload_n hx hb dX7_afterNight_0 rfl (lv_at hl 2 rfl) ?_
  by_cases k_6 : x2 = (1 : Int32)
  · replace hw := hw.1 k_6
    refine lv_lookup (off := 27) (tgt := 28) hx hb dX7_afterNight_1 (by decide) (by rw [k_6]; decide) (by decide) ?_
    refine lv_aload_n hx hb dX7_afterNight_28 rfl (lv_at hl 0 rfl) ?_
    refine lv_iload_n hx hb dX7_afterNight_29 rfl (lv_at hl 1 rfl) ?_
    refine cl_i (wc := [(a_t, .inr (7, [.int t_places, .ref a_t_house, .ref a_t_view, .int t_skins, .ref a_t_girth, .ref a_t_kind, .int t_smoke, .int t_tide, .ref a_t_hiding]))]) (wr := [(a_t_house, .inl (tc 0, 9, .inl f_t_house))]) hP hD hS hA [0] [1] rfl rfl (by decide) (by decide) (va_runV (As := [.int x1]) (rest := []) ⟨hx, hb, hml, hown, hts⟩ (mX7_afterNext (l := l) (D := D) (tc := tc) (sz := H.size) (a_t := a_t) (a_t_house := a_t_house) (a_t_view := a_t_view) (a_t_girth := a_t_girth) (a_t_kind := a_t_kind) (a_t_hiding := a_t_hiding) (t_places := t_places) (t_skins := t_skins) (t_smoke := t_smoke) (t_tide := t_tide) (x1 := x1) hw) (cwV 1 hts gX7_afterNight_X7_afterNext rfl rfl rfl (by decide +kernel) ⟨(Nat.le_of_ble_eq_true rfl), (Nat.le_of_ble_eq_true rfl)⟩) (pre_V hK hP hD [0] rfl (by decide) 0 7 rfl rfl) rfl rfl hl.1 rfl (lv_room (Nat.le_of_ble_eq_true rfl)) dX7_afterNight_30 ⟨(Nat.le_of_ble_eq_true rfl), (Nat.le_of_ble_eq_true rfl)⟩) (fun r_1 u_ H locs hw hP hD hS => ?_)
    have hP : va_P D vwCl [(a_t_house, .inl (tc 0, 9, .inl f_t_house)), (a_t, .inr (7, [.int t_places, .ref a_t_house, .ref a_t_view, .int t_skins, .ref a_t_girth, .ref a_t_kind, .int t_smoke, .int t_tide, .ref a_t_hiding]))] H := hP
    have hD : va_D A [(a_t_house, .inl (tc 0, 9, .inl f_t_house)), (a_t, .inr (7, [.int t_places, .ref a_t_house, .ref a_t_view, .int t_skins, .ref a_t_girth, .ref a_t_kind, .int t_smoke, .int t_tide, .ref a_t_hiding]))] := hD
    have hP9 := hP.sub (ws' := [(a_t, .inr (7, [.int t_places, .ref a_t_house, .ref a_t_view, .int t_skins, .ref a_t_girth, .ref a_t_kind, .int t_smoke, .int t_tide, .ref a_t_hiding])), (a_t_house, .inl (tc 0, 9, .inl f_t_house))]) [1, 0] rfl
    have hD9 := hD.sub (ws' := [(a_t, .inr (7, [.int t_places, .ref a_t_house, .ref a_t_view, .int t_skins, .ref a_t_girth, .ref a_t_kind, .int t_smoke, .int t_tide, .ref a_t_hiding])), (a_t_house, .inl (tc 0, 9, .inl f_t_house))]) [1, 0] (by decide) rfl
    exact W.iret (v := r_1) hx hb hr (fun t ht hW => ⟨⟨r_1, (), rfl, hw, by rw [ht]; exact hP9, hD9⟩, hS.F ht⟩) hS.2.2 dX7_afterNight_33
  · by_cases k_7 : x2 = (3 : Int32)
    · replace hw := hw.2.1 k_7
      refine lv_lookup (off := 33) (tgt := 34) hx hb dX7_afterNight_1 (by decide) (by rw [k_7]; decide) (by decide) ?_
      refine lv_aload_n hx hb dX7_afterNight_34 rfl (lv_at hl 0 rfl) ?_
      refine lv_iload_n hx hb dX7_afterNight_35 rfl (lv_at hl 1 rfl) ?_
      refine cl_i (wc := [(a_t, .inr (7, [.int t_places, .ref a_t_house, .ref a_t_view, .int t_skins, .ref a_t_girth, .ref a_t_kind, .int t_smoke, .int t_tide, .ref a_t_hiding])), (a_t_house, .inl (tc 0, 9, .inl f_t_house))]) (wr := []) hP hD hS hA [0, 1] [] rfl rfl (by decide) (by decide) (va_runV (As := [.int x1]) (rest := []) ⟨hx, hb, hml, hown, hts⟩ (mX7_lowestBeside (l := l) (D := D) (tc := tc) (sz := H.size) (a_t := a_t) (a_t_house := a_t_house) (a_t_view := a_t_view) (a_t_girth := a_t_girth) (a_t_kind := a_t_kind) (a_t_hiding := a_t_hiding) (t_places := t_places) (t_skins := t_skins) (t_smoke := t_smoke) (t_tide := t_tide) (f_t_house := f_t_house) (x1 := x1) hw) (cwV 1 hts gX7_afterNight_X7_lowestBeside rfl rfl rfl (by decide +kernel) ⟨(Nat.le_of_ble_eq_true rfl), (Nat.le_of_ble_eq_true rfl)⟩) (pre_V hK hP hD [0, 1] rfl (by decide) 0 7 rfl rfl) rfl rfl hl.1 rfl (lv_room (Nat.le_of_ble_eq_true rfl)) dX7_afterNight_36 ⟨(Nat.le_of_ble_eq_true rfl), (Nat.le_of_ble_eq_true rfl)⟩) (fun r_2 u_ H locs hw hP hD hS => ?_)
      have hP : va_P D vwCl [(a_t, .inr (7, [.int t_places, .ref a_t_house, .ref a_t_view, .int t_skins, .ref a_t_girth, .ref a_t_kind, .int t_smoke, .int t_tide, .ref a_t_hiding])), (a_t_house, .inl (tc 0, 9, .inl f_t_house))] H := hP
      have hD : va_D A [(a_t, .inr (7, [.int t_places, .ref a_t_house, .ref a_t_view, .int t_skins, .ref a_t_girth, .ref a_t_kind, .int t_smoke, .int t_tide, .ref a_t_hiding])), (a_t_house, .inl (tc 0, 9, .inl f_t_house))] := hD
      refine lv_iload_n hx hb dX7_afterNight_39 rfl (lv_at hl 1 rfl) ?_
      refine lv_icmp_ge (tgt := 51) hx hb dX7_afterNight_40 (by decide) (fun c_3 => ?_) (fun c_3 => ?_)
      · replace hw := hw.1 c_3
        refine lv_aload_n hx hb dX7_afterNight_51 rfl (lv_at hl 0 rfl) ?_
        refine lv_iload_n hx hb dX7_afterNight_52 rfl (lv_at hl 1 rfl) ?_
        refine cl_i (wc := [(a_t, .inr (7, [.int t_places, .ref a_t_house, .ref a_t_view, .int t_skins, .ref a_t_girth, .ref a_t_kind, .int t_smoke, .int t_tide, .ref a_t_hiding]))]) (wr := [(a_t_house, .inl (tc 0, 9, .inl f_t_house))]) hP hD hS hA [0] [1] rfl rfl (by decide) (by decide) (va_runV (As := [.int x1]) (rest := []) ⟨hx, hb, hml, hown, hts⟩ (mX7_afterNext (l := l) (D := D) (tc := tc) (sz := H.size) (a_t := a_t) (a_t_house := a_t_house) (a_t_view := a_t_view) (a_t_girth := a_t_girth) (a_t_kind := a_t_kind) (a_t_hiding := a_t_hiding) (t_places := t_places) (t_skins := t_skins) (t_smoke := t_smoke) (t_tide := t_tide) (x1 := x1) hw) (cwV 1 hts gX7_afterNight_X7_afterNext rfl rfl rfl (by decide +kernel) ⟨(Nat.le_of_ble_eq_true rfl), (Nat.le_of_ble_eq_true rfl)⟩) (pre_V hK hP hD [0] rfl (by decide) 0 7 rfl rfl) rfl rfl hl.1 rfl (lv_room (Nat.le_of_ble_eq_true rfl)) dX7_afterNight_53 ⟨(Nat.le_of_ble_eq_true rfl), (Nat.le_of_ble_eq_true rfl)⟩) (fun r_4 u_ H locs hw hP hD hS => ?_)
        have hP : va_P D vwCl [(a_t_house, .inl (tc 0, 9, .inl f_t_house)), (a_t, .inr (7, [.int t_places, .ref a_t_house, .ref a_t_view, .int t_skins, .ref a_t_girth, .ref a_t_kind, .int t_smoke, .int t_tide, .ref a_t_hiding]))] H := hP
        have hD : va_D A [(a_t_house, .inl (tc 0, 9, .inl f_t_house)), (a_t, .inr (7, [.int t_places, .ref a_t_house, .ref a_t_view, .int t_skins, .ref a_t_girth, .ref a_t_kind, .int t_smoke, .int t_tide, .ref a_t_hiding]))] := hD
        have hP9 := hP.sub (ws' := [(a_t, .inr (7, [.int t_places, .ref a_t_house, .ref a_t_view, .int t_skins, .ref a_t_girth, .ref a_t_kind, .int t_smoke, .int t_tide, .ref a_t_hiding])), (a_t_house, .inl (tc 0, 9, .inl f_t_house))]) [1, 0] rfl
        have hD9 := hD.sub (ws' := [(a_t, .inr (7, [.int t_places, .ref a_t_house, .ref a_t_view, .int t_skins, .ref a_t_girth, .ref a_t_kind, .int t_smoke, .int t_tide, .ref a_t_hiding])), (a_t_house, .inl (tc 0, 9, .inl f_t_house))]) [1, 0] (by decide) rfl
        exact W.iret (v := r_4) hx hb hr (fun t ht hW => ⟨⟨r_4, (), rfl, hw, by rw [ht]; exact hP9, hD9⟩, hS.F ht⟩) hS.2.2 dX7_afterNight_56
      · replace hw := hw.2 c_3
        refine lv_aload_n hx hb dX7_afterNight_43 rfl (lv_at hl 0 rfl) ?_
        refine lv_iload_n hx hb dX7_afterNight_44 rfl (lv_at hl 1 rfl) ?_
        refine cl_i (wc := [(a_t, .inr (7, [.int t_places, .ref a_t_house, .ref a_t_view, .int t_skins, .ref a_t_girth, .ref a_t_kind, .int t_smoke, .int t_tide, .ref a_t_hiding])), (a_t_house, .inl (tc 0, 9, .inl f_t_house))]) (wr := []) hP hD hS hA [0, 1] [] rfl rfl (by decide) (by decide) (va_runV (As := [.int x1]) (rest := []) ⟨hx, hb, hml, hown, hts⟩ (mX7_lowestBeside (l := l) (D := D) (tc := tc) (sz := H.size) (a_t := a_t) (a_t_house := a_t_house) (a_t_view := a_t_view) (a_t_girth := a_t_girth) (a_t_kind := a_t_kind) (a_t_hiding := a_t_hiding) (t_places := t_places) (t_skins := t_skins) (t_smoke := t_smoke) (t_tide := t_tide) (f_t_house := f_t_house) (x1 := x1) hw) (cwV 1 hts gX7_afterNight_X7_lowestBeside rfl rfl rfl (by decide +kernel) ⟨(Nat.le_of_ble_eq_true rfl), (Nat.le_of_ble_eq_true rfl)⟩) (pre_V hK hP hD [0, 1] rfl (by decide) 0 7 rfl rfl) rfl rfl hl.1 rfl (lv_room (Nat.le_of_ble_eq_true rfl)) dX7_afterNight_45 ⟨(Nat.le_of_ble_eq_true rfl), (Nat.le_of_ble_eq_true rfl)⟩) (fun r_5 u_ H locs hw hP hD hS => ?_)
        have hP : va_P D vwCl [(a_t, .inr (7, [.int t_places, .ref a_t_house, .ref a_t_view, .int t_skins, .ref a_t_girth, .ref a_t_kind, .int t_smoke, .int t_tide, .ref a_t_hiding])), (a_t_house, .inl (tc 0, 9, .inl f_t_house))] H := hP
        have hD : va_D A [(a_t, .inr (7, [.int t_places, .ref a_t_house, .ref a_t_view, .int t_skins, .ref a_t_girth, .ref a_t_kind, .int t_smoke, .int t_tide, .ref a_t_hiding])), (a_t_house, .inl (tc 0, 9, .inl f_t_house))] := hD
        refine lv_goto (tgt := 56) hx hb dX7_afterNight_48 (by decide) ?_
        have hP9 := hP.sub (ws' := [(a_t, .inr (7, [.int t_places, .ref a_t_house, .ref a_t_view, .int t_skins, .ref a_t_girth, .ref a_t_kind, .int t_smoke, .int t_tide, .ref a_t_hiding])), (a_t_house, .inl (tc 0, 9, .inl f_t_house))]) [0, 1] rfl
        have hD9 := hD.sub (ws' := [(a_t, .inr (7, [.int t_places, .ref a_t_house, .ref a_t_view, .int t_skins, .ref a_t_girth, .ref a_t_kind, .int t_smoke, .int t_tide, .ref a_t_hiding])), (a_t_house, .inl (tc 0, 9, .inl f_t_house))]) [0, 1] (by decide) rfl
        exact W.iret (v := r_5) hx hb hr (fun t ht hW => ⟨⟨r_5, (), rfl, hw, by rw [ht]; exact hP9, hD9⟩, hS.F ht⟩) hS.2.2 dX7_afterNight_56
    · replace hw := hw.2.2 k_6 k_7
      refine lv_lookup (off := 56) (tgt := 57) hx hb dX7_afterNight_1 (by decide) ((lv_osw k_6 (by decide)).trans ((lv_osw k_7 (by decide)).trans rfl)) (by decide) ?_
      refine lv_iload_n hx hb dX7_afterNight_57 rfl (lv_at hl 1 rfl) ?_
      have hP9 := hP.sub (ws' := [(a_t, .inr (7, [.int t_places, .ref a_t_house, .ref a_t_view, .int t_skins, .ref a_t_girth, .ref a_t_kind, .int t_smoke, .int t_tide, .ref a_t_hiding])), (a_t_house, .inl (tc 0, 9, .inl f_t_house))]) [0, 1] rfl
      have hD9 := hD.sub (ws' := [(a_t, .inr (7, [.int t_places, .ref a_t_house, .ref a_t_view, .int t_skins, .ref a_t_girth, .ref a_t_kind, .int t_smoke, .int t_tide, .ref a_t_hiding])), (a_t_house, .inl (tc 0, 9, .inl f_t_house))]) [0, 1] (by decide) rfl
      exact W.iret (v := x1) hx hb hr (fun t ht hW => ⟨⟨x1, (), rfl, hw, by rw [ht]; exact hP9, hD9⟩, hS.F ht⟩) hS.2.2 dX7_afterNight_58

theorem fX7_walk_9 : Cond.fieldLink RX7 9 "SkinInRafters$Town" "places" "I" ∈ wsX7_walk := by decide +kernel
theorem iX7_walk_X7 : ∀ w ∈ wsX70, w ∈ wsX7_walk := by decide +kernel
def pX7_walk_B9 (np : Nat) (x2 : Int32) (t_places : Int32) (f_t_house : Nat → Int32) (K90 : (Nat → Int32) → Prop) (rec : Int32 → Int32 → Int32 → (Nat → Int32) → Prop) (x4 : Int32) (x5 : Int32) (x6 : Int32) (f_p3 : Nat → Int32) : Prop :=
  (60 < x6 → (K90 f_p3)) ∧ (¬ (60 < x6) → (((nI np) ≤ x6 → (K90 f_p3)) ∧ (¬ ((nI np) ≤ x6) → (vp_in x6 np ∧ ((¬ x2 = 2 → (pX7_afterNight t_places f_t_house x4 x2 (fun (r_15 : Int32) => (rec r_15 x5 (x6 + 1) (upd f_p3 x6.toNatClampNeg x4))))) ∧ (x2 = 2 → ((x4 ≤ 0 → (pX7_afterFro t_places x4 0 (fun (r_17 : Int32) => (rec r_17 0 (x6 + 1) (upd f_p3 x6.toNatClampNeg x4))))) ∧ (¬ (x4 ≤ 0) → ((¬ x5 = 0 → (pX7_afterFro t_places x4 1 (fun (r_19 : Int32) => (rec r_19 1 (x6 + 1) (upd f_p3 x6.toNatClampNeg x4))))) ∧ (x5 = 0 → ((x4 < (t_places - 1) → (pX7_afterFro t_places x4 0 (fun (r_21 : Int32) => (rec r_21 0 (x6 + 1) (upd f_p3 x6.toNatClampNeg x4))))) ∧ (¬ (x4 < (t_places - 1)) → (pX7_afterFro t_places x4 1 (fun (r_22 : Int32) => (rec r_22 1 (x6 + 1) (upd f_p3 x6.toNatClampNeg x4))))))))))))))))
def pX7_walk (f_p3 : Nat → Int32) (t_places : Int32) (f_t_house : Nat → Int32) (np : Nat) (x1 : Int32) (x2 : Int32) (K : (Nat → Int32) → Prop) : Prop :=
  ∃ n_ : Nat, it4 (pX7_walk_B9 np x2 t_places f_t_house (fun (p3_23 : Nat → Int32) => (K p3_23))) n_ x1 0 1 f_p3
set_option maxHeartbeats 4000000 in
set_option maxRecDepth 100000 in
theorem lX7_walk_9 {p : Program} {l : Launch} {e : Env} {s : State} {m : MethodId} {args : Array Value} {below : List Frame} {meth : Method} {c : Code} {D : va_G} {tc : Nat → ClassId} {A : Nat → Prop} {Q : State → Prop} (C0 : cx p s m args c RX7 cX7_walk 7 wsX7_walk D tc A) {a_p3 a_t a_t_house a_t_view a_t_girth a_t_kind a_t_hiding : Nat} {np : Nat} {x2 : Int32} {t_places : Int32} {t_skins : Int32} {t_smoke : Int32} {t_tide : Int32} {f_t_house : Nat → Int32} {K90 : (Nat → Int32) → Prop} :
    ∀ (n_ : Nat) (x4 : Int32) (x5 : Int32) (x6 : Int32) (f_p3 : Nat → Int32), it4 (pX7_walk_B9 np x2 t_places f_t_house K90) n_ x4 x5 x6 f_p3 → ∀ (H : Heap) (locs : List Loc) (ls : Array Slot), va_P D vwCl [(a_p3, .inl (tc 0, np, .inl f_p3)), (a_t, .inr (7, [.int t_places, .ref a_t_house, .ref a_t_view, .int t_skins, .ref a_t_girth, .ref a_t_kind, .int t_smoke, .int t_tide, .ref a_t_hiding])), (a_t_house, .inl (tc 0, 9, .inl f_t_house))] H → va_D A [(a_p3, .inl (tc 0, np, .inl f_p3)), (a_t, .inr (7, [.int t_places, .ref a_t_house, .ref a_t_view, .int t_skins, .ref a_t_girth, .ref a_t_kind, .int t_smoke, .int t_tide, .ref a_t_hiding])), (a_t_house, .inl (tc 0, 9, .inl f_t_house))] → va_S A s.heap H locs → lv_has ls 7 [(0, .ref a_t), (2, .int x2), (3, .ref a_p3), (4, .int x4), (5, .int x5), (6, .int x6)] → (∀ (z_p3 : Nat → Int32), K90 z_p3 → ∀ (H : Heap) (locs : List Loc) (ls : Array Slot), va_P D vwCl [(a_p3, .inl (tc 0, np, .inl z_p3)), (a_t, .inr (7, [.int t_places, .ref a_t_house, .ref a_t_view, .int t_skins, .ref a_t_girth, .ref a_t_kind, .int t_smoke, .int t_tide, .ref a_t_hiding])), (a_t_house, .inl (tc 0, 9, .inl f_t_house))] H → va_D A [(a_p3, .inl (tc 0, np, .inl z_p3)), (a_t, .inr (7, [.int t_places, .ref a_t_house, .ref a_t_view, .int t_skins, .ref a_t_girth, .ref a_t_kind, .int t_smoke, .int t_tide, .ref a_t_hiding])), (a_t_house, .inl (tc 0, 9, .inl f_t_house))] → va_S A s.heap H locs → lv_has ls 7 [] → W p l e ({ frames := 2, cells := 0, slots := 0, locals := 44 } : Room) s m args below meth c H locs 0 0 Q (F0 m 90 ls [])) → W p l e ({ frames := 2, cells := 0, slots := 0, locals := 44 } : Room) s m args below meth c H locs 0 0 Q (F0 m 9 ls []) := by
  obtain ⟨hx, hb, hml, hown, hts, hK, hA⟩ := id C0
  intro n_
  induction n_ with
  | zero =>
    intro x4 x5 x6 f_p3 hw
    exact False.elim hw
  | succ n_ ih =>
    intro x4 x5 x6 f_p3 hw H locs ls hP hD hS hl k90
    replace hw : pX7_walk_B9 np x2 t_places f_t_house K90 (it4 (pX7_walk_B9 np x2 t_places f_t_house K90) n_) x4 x5 x6 f_p3 := hw
    unfold pX7_walk_B9 at hw
    refine lv_iload hx hb dX7_walk_9 (lv_at hl 5 rfl) ?_
    refine lv_bipush (v := 60) hx hb dX7_walk_11 (by decide) ?_
    refine lv_icmp_gt (tgt := 90) hx hb dX7_walk_13 (by decide) (fun c_12 => ?_) (fun c_12 => ?_)
    · replace hw := hw.1 c_12
      exact k90 _ hw _ _ _ (hP.sub (ws' := [(a_p3, .inl (tc 0, np, .inl f_p3)), (a_t, .inr (7, [.int t_places, .ref a_t_house, .ref a_t_view, .int t_skins, .ref a_t_girth, .ref a_t_kind, .int t_smoke, .int t_tide, .ref a_t_hiding])), (a_t_house, .inl (tc 0, 9, .inl f_t_house))]) [0, 1, 2] rfl) (hD.sub (ws' := [(a_p3, .inl (tc 0, np, .inl f_p3)), (a_t, .inr (7, [.int t_places, .ref a_t_house, .ref a_t_view, .int t_skins, .ref a_t_girth, .ref a_t_kind, .int t_smoke, .int t_tide, .ref a_t_hiding])), (a_t_house, .inl (tc 0, 9, .inl f_t_house))]) [0, 1, 2] (by decide) rfl) hS (lv_sub hl [] rfl)
    · replace hw := hw.2 c_12
      refine lv_iload hx hb dX7_walk_16 (lv_at hl 5 rfl) ?_
      refine lv_aload_n hx hb dX7_walk_18 rfl (lv_at hl 2 rfl) ?_
      refine va_alen (v := (nI np)) hx hb hK.1 hP 0 0 rfl rfl rfl dX7_walk_19 ?_
      refine lv_icmp_ge (tgt := 90) hx hb dX7_walk_20 (by decide) (fun c_13 => ?_) (fun c_13 => ?_)
      · replace hw := hw.1 c_13
        exact k90 _ hw _ _ _ (hP.sub (ws' := [(a_p3, .inl (tc 0, np, .inl f_p3)), (a_t, .inr (7, [.int t_places, .ref a_t_house, .ref a_t_view, .int t_skins, .ref a_t_girth, .ref a_t_kind, .int t_smoke, .int t_tide, .ref a_t_hiding])), (a_t_house, .inl (tc 0, 9, .inl f_t_house))]) [0, 1, 2] rfl) (hD.sub (ws' := [(a_p3, .inl (tc 0, np, .inl f_p3)), (a_t, .inr (7, [.int t_places, .ref a_t_house, .ref a_t_view, .int t_skins, .ref a_t_girth, .ref a_t_kind, .int t_smoke, .int t_tide, .ref a_t_hiding])), (a_t_house, .inl (tc 0, 9, .inl f_t_house))]) [0, 1, 2] (by decide) rfl) hS (lv_sub hl [] rfl)
      · replace hw := hw.2 c_13
        refine lv_aload_n hx hb dX7_walk_23 rfl (lv_at hl 2 rfl) ?_
        refine lv_iload hx hb dX7_walk_24 (lv_at hl 5 rfl) ?_
        refine lv_iload hx hb dX7_walk_26 (lv_at hl 3 rfl) ?_
        refine va_iast hx hb hK.1 hP hD hS 0 0 rfl rfl hw.1 dX7_walk_28 (fun H locs hP hD hS => ?_)
        replace hw := hw.2
        have hP : va_P D vwCl [(a_p3, .inl (tc 0, np, .inl (upd f_p3 x6.toNatClampNeg x4))), (a_t, .inr (7, [.int t_places, .ref a_t_house, .ref a_t_view, .int t_skins, .ref a_t_girth, .ref a_t_kind, .int t_smoke, .int t_tide, .ref a_t_hiding])), (a_t_house, .inl (tc 0, 9, .inl f_t_house))] H := hP
        have hD : va_D A [(a_p3, .inl (tc 0, np, .inl (upd f_p3 x6.toNatClampNeg x4))), (a_t, .inr (7, [.int t_places, .ref a_t_house, .ref a_t_view, .int t_skins, .ref a_t_girth, .ref a_t_kind, .int t_smoke, .int t_tide, .ref a_t_hiding])), (a_t_house, .inl (tc 0, 9, .inl f_t_house))] := hD
        refine lv_iload_n hx hb dX7_walk_29 rfl (lv_at hl 1 rfl) ?_
        refine lv_iconst (v := 2) hx hb dX7_walk_30 (by decide) ?_
        refine lv_icmp_ne (tgt := 75) hx hb dX7_walk_31 (by decide) (fun c_14 => ?_) (fun c_14 => ?_)
        · replace hw := hw.1 c_14
          refine lv_aload_n hx hb dX7_walk_75 rfl (lv_at hl 0 rfl) ?_
          refine lv_iload hx hb dX7_walk_76 (lv_at hl 3 rfl) ?_
          refine lv_iload_n hx hb dX7_walk_78 rfl (lv_at hl 1 rfl) ?_
          refine cl_i (wc := [(a_t, .inr (7, [.int t_places, .ref a_t_house, .ref a_t_view, .int t_skins, .ref a_t_girth, .ref a_t_kind, .int t_smoke, .int t_tide, .ref a_t_hiding])), (a_t_house, .inl (tc 0, 9, .inl f_t_house))]) (wr := [(a_p3, .inl (tc 0, np, .inl (upd f_p3 x6.toNatClampNeg x4)))]) hP hD hS hA [1, 2] [0] rfl rfl (by decide) (by decide) (va_runV (As := [.int x4, .int x2]) (rest := []) ⟨hx, hb, hml, hown, hts⟩ (mX7_afterNight (l := l) (D := D) (tc := tc) (sz := H.size) (a_t := a_t) (a_t_house := a_t_house) (a_t_view := a_t_view) (a_t_girth := a_t_girth) (a_t_kind := a_t_kind) (a_t_hiding := a_t_hiding) (t_places := t_places) (t_skins := t_skins) (t_smoke := t_smoke) (t_tide := t_tide) (f_t_house := f_t_house) (x1 := x4) (x2 := x2) hw) (cwV 2 hts gX7_walk_X7_afterNight rfl rfl rfl (by decide +kernel) ⟨(Nat.le_of_ble_eq_true rfl), (Nat.le_of_ble_eq_true rfl)⟩) (pre_V hK hP hD [1, 2] rfl (by decide) 1 7 rfl rfl) rfl rfl hl.1 rfl (lv_room (Nat.le_of_ble_eq_true rfl)) dX7_walk_79 ⟨(Nat.le_of_ble_eq_true rfl), (Nat.le_of_ble_eq_true rfl)⟩) (fun r_15 u_ H locs hw hP hD hS => ?_)
          have hP : va_P D vwCl [(a_p3, .inl (tc 0, np, .inl (upd f_p3 x6.toNatClampNeg x4))), (a_t, .inr (7, [.int t_places, .ref a_t_house, .ref a_t_view, .int t_skins, .ref a_t_girth, .ref a_t_kind, .int t_smoke, .int t_tide, .ref a_t_hiding])), (a_t_house, .inl (tc 0, 9, .inl f_t_house))] H := hP
          have hD : va_D A [(a_p3, .inl (tc 0, np, .inl (upd f_p3 x6.toNatClampNeg x4))), (a_t, .inr (7, [.int t_places, .ref a_t_house, .ref a_t_view, .int t_skins, .ref a_t_girth, .ref a_t_kind, .int t_smoke, .int t_tide, .ref a_t_hiding])), (a_t_house, .inl (tc 0, 9, .inl f_t_house))] := hD
          refine lv_istore (lv' := [(4, .int r_15), (0, .ref a_t), (2, .int x2), (3, .ref a_p3), (5, .int x5), (6, .int x6)]) hx hb dX7_walk_82 hl (by decide) rfl (fun ls hl => ?_)
          refine lv_iinc (v := (x6 + 1)) (lv' := [(6, .int (x6 + 1)), (4, .int r_15), (0, .ref a_t), (2, .int x2), (3, .ref a_p3), (5, .int x5)]) hx hb dX7_walk_84 hl (k := 5) rfl rfl (by decide) rfl (fun ls hl => ?_)
          refine lv_goto (tgt := 9) hx hb dX7_walk_87 (by decide) ?_
          exact ih _ _ _ _ hw _ _ _ (hP.sub (ws' := [(a_p3, .inl (tc 0, np, .inl (upd f_p3 x6.toNatClampNeg x4))), (a_t, .inr (7, [.int t_places, .ref a_t_house, .ref a_t_view, .int t_skins, .ref a_t_girth, .ref a_t_kind, .int t_smoke, .int t_tide, .ref a_t_hiding])), (a_t_house, .inl (tc 0, 9, .inl f_t_house))]) [0, 1, 2] rfl) (hD.sub (ws' := [(a_p3, .inl (tc 0, np, .inl (upd f_p3 x6.toNatClampNeg x4))), (a_t, .inr (7, [.int t_places, .ref a_t_house, .ref a_t_view, .int t_skins, .ref a_t_girth, .ref a_t_kind, .int t_smoke, .int t_tide, .ref a_t_hiding])), (a_t_house, .inl (tc 0, 9, .inl f_t_house))]) [0, 1, 2] (by decide) rfl) hS (lv_sub hl [2, 3, 4, 1, 5, 0] rfl) k90
        · replace hw := hw.2 c_14
          refine lv_iload hx hb dX7_walk_34 (lv_at hl 3 rfl) ?_
          refine lv_if_le (tgt := 59) hx hb dX7_walk_36 (by decide) (fun c_16 => ?_) (fun c_16 => ?_)
          · replace hw := hw.1 c_16
            refine lv_iconst (v := 0) hx hb dX7_walk_59 (by decide) ?_
            refine lv_istore (lv' := [(5, .int 0), (0, .ref a_t), (2, .int x2), (3, .ref a_p3), (4, .int x4), (6, .int x6)]) hx hb dX7_walk_60 hl (by decide) rfl (fun ls hl => ?_)
            refine lv_aload_n hx hb dX7_walk_62 rfl (lv_at hl 1 rfl) ?_
            refine lv_iload hx hb dX7_walk_63 (lv_at hl 4 rfl) ?_
            refine lv_iload hx hb dX7_walk_65 (lv_at hl 0 rfl) ?_
            refine cl_i (wc := [(a_t, .inr (7, [.int t_places, .ref a_t_house, .ref a_t_view, .int t_skins, .ref a_t_girth, .ref a_t_kind, .int t_smoke, .int t_tide, .ref a_t_hiding]))]) (wr := [(a_p3, .inl (tc 0, np, .inl (upd f_p3 x6.toNatClampNeg x4))), (a_t_house, .inl (tc 0, 9, .inl f_t_house))]) hP hD hS hA [1] [0, 2] rfl rfl (by decide) (by decide) (va_runV (As := [.int x4, .int 0]) (rest := []) ⟨hx, hb, hml, hown, hts⟩ (mX7_afterFro (l := l) (D := D) (tc := tc) (sz := H.size) (a_t := a_t) (a_t_house := a_t_house) (a_t_view := a_t_view) (a_t_girth := a_t_girth) (a_t_kind := a_t_kind) (a_t_hiding := a_t_hiding) (t_places := t_places) (t_skins := t_skins) (t_smoke := t_smoke) (t_tide := t_tide) (x1 := x4) (x2 := 0) hw) (cwV 2 hts gX7_walk_X7_afterFro rfl rfl rfl (by decide +kernel) ⟨(Nat.le_of_ble_eq_true rfl), (Nat.le_of_ble_eq_true rfl)⟩) (pre_V hK hP hD [1] rfl (by decide) 1 7 rfl rfl) rfl rfl hl.1 rfl (lv_room (Nat.le_of_ble_eq_true rfl)) dX7_walk_67 ⟨(Nat.le_of_ble_eq_true rfl), (Nat.le_of_ble_eq_true rfl)⟩) (fun r_17 u_ H locs hw hP hD hS => ?_)
            have hP : va_P D vwCl [(a_p3, .inl (tc 0, np, .inl (upd f_p3 x6.toNatClampNeg x4))), (a_t_house, .inl (tc 0, 9, .inl f_t_house)), (a_t, .inr (7, [.int t_places, .ref a_t_house, .ref a_t_view, .int t_skins, .ref a_t_girth, .ref a_t_kind, .int t_smoke, .int t_tide, .ref a_t_hiding]))] H := hP
            have hD : va_D A [(a_p3, .inl (tc 0, np, .inl (upd f_p3 x6.toNatClampNeg x4))), (a_t_house, .inl (tc 0, 9, .inl f_t_house)), (a_t, .inr (7, [.int t_places, .ref a_t_house, .ref a_t_view, .int t_skins, .ref a_t_girth, .ref a_t_kind, .int t_smoke, .int t_tide, .ref a_t_hiding]))] := hD
            refine lv_istore (lv' := [(4, .int r_17), (5, .int 0), (0, .ref a_t), (2, .int x2), (3, .ref a_p3), (6, .int x6)]) hx hb dX7_walk_70 hl (by decide) rfl (fun ls hl => ?_)
            refine lv_goto (tgt := 84) hx hb dX7_walk_72 (by decide) ?_
            refine lv_iinc (v := (x6 + 1)) (lv' := [(6, .int (x6 + 1)), (4, .int r_17), (5, .int 0), (0, .ref a_t), (2, .int x2), (3, .ref a_p3)]) hx hb dX7_walk_84 hl (k := 5) rfl rfl (by decide) rfl (fun ls hl => ?_)
            refine lv_goto (tgt := 9) hx hb dX7_walk_87 (by decide) ?_
            exact ih _ _ _ _ hw _ _ _ (hP.sub (ws' := [(a_p3, .inl (tc 0, np, .inl (upd f_p3 x6.toNatClampNeg x4))), (a_t, .inr (7, [.int t_places, .ref a_t_house, .ref a_t_view, .int t_skins, .ref a_t_girth, .ref a_t_kind, .int t_smoke, .int t_tide, .ref a_t_hiding])), (a_t_house, .inl (tc 0, 9, .inl f_t_house))]) [0, 2, 1] rfl) (hD.sub (ws' := [(a_p3, .inl (tc 0, np, .inl (upd f_p3 x6.toNatClampNeg x4))), (a_t, .inr (7, [.int t_places, .ref a_t_house, .ref a_t_view, .int t_skins, .ref a_t_girth, .ref a_t_kind, .int t_smoke, .int t_tide, .ref a_t_hiding])), (a_t_house, .inl (tc 0, 9, .inl f_t_house))]) [0, 2, 1] (by decide) rfl) hS (lv_sub hl [3, 4, 5, 1, 2, 0] rfl) k90
          · replace hw := hw.2 c_16
            refine lv_iload hx hb dX7_walk_39 (lv_at hl 4 rfl) ?_
            refine lv_if_ne (tgt := 55) hx hb dX7_walk_41 (by decide) (fun c_18 => ?_) (fun c_18 => ?_)
            · replace hw := hw.1 c_18
              refine lv_iconst (v := 1) hx hb dX7_walk_55 (by decide) ?_
              refine lv_goto (tgt := 60) hx hb dX7_walk_56 (by decide) ?_
              refine lv_istore (lv' := [(5, .int 1), (0, .ref a_t), (2, .int x2), (3, .ref a_p3), (4, .int x4), (6, .int x6)]) hx hb dX7_walk_60 hl (by decide) rfl (fun ls hl => ?_)
              refine lv_aload_n hx hb dX7_walk_62 rfl (lv_at hl 1 rfl) ?_
              refine lv_iload hx hb dX7_walk_63 (lv_at hl 4 rfl) ?_
              refine lv_iload hx hb dX7_walk_65 (lv_at hl 0 rfl) ?_
              refine cl_i (wc := [(a_t, .inr (7, [.int t_places, .ref a_t_house, .ref a_t_view, .int t_skins, .ref a_t_girth, .ref a_t_kind, .int t_smoke, .int t_tide, .ref a_t_hiding]))]) (wr := [(a_p3, .inl (tc 0, np, .inl (upd f_p3 x6.toNatClampNeg x4))), (a_t_house, .inl (tc 0, 9, .inl f_t_house))]) hP hD hS hA [1] [0, 2] rfl rfl (by decide) (by decide) (va_runV (As := [.int x4, .int 1]) (rest := []) ⟨hx, hb, hml, hown, hts⟩ (mX7_afterFro (l := l) (D := D) (tc := tc) (sz := H.size) (a_t := a_t) (a_t_house := a_t_house) (a_t_view := a_t_view) (a_t_girth := a_t_girth) (a_t_kind := a_t_kind) (a_t_hiding := a_t_hiding) (t_places := t_places) (t_skins := t_skins) (t_smoke := t_smoke) (t_tide := t_tide) (x1 := x4) (x2 := 1) hw) (cwV 2 hts gX7_walk_X7_afterFro rfl rfl rfl (by decide +kernel) ⟨(Nat.le_of_ble_eq_true rfl), (Nat.le_of_ble_eq_true rfl)⟩) (pre_V hK hP hD [1] rfl (by decide) 1 7 rfl rfl) rfl rfl hl.1 rfl (lv_room (Nat.le_of_ble_eq_true rfl)) dX7_walk_67 ⟨(Nat.le_of_ble_eq_true rfl), (Nat.le_of_ble_eq_true rfl)⟩) (fun r_19 u_ H locs hw hP hD hS => ?_)
              have hP : va_P D vwCl [(a_p3, .inl (tc 0, np, .inl (upd f_p3 x6.toNatClampNeg x4))), (a_t_house, .inl (tc 0, 9, .inl f_t_house)), (a_t, .inr (7, [.int t_places, .ref a_t_house, .ref a_t_view, .int t_skins, .ref a_t_girth, .ref a_t_kind, .int t_smoke, .int t_tide, .ref a_t_hiding]))] H := hP
              have hD : va_D A [(a_p3, .inl (tc 0, np, .inl (upd f_p3 x6.toNatClampNeg x4))), (a_t_house, .inl (tc 0, 9, .inl f_t_house)), (a_t, .inr (7, [.int t_places, .ref a_t_house, .ref a_t_view, .int t_skins, .ref a_t_girth, .ref a_t_kind, .int t_smoke, .int t_tide, .ref a_t_hiding]))] := hD
              refine lv_istore (lv' := [(4, .int r_19), (5, .int 1), (0, .ref a_t), (2, .int x2), (3, .ref a_p3), (6, .int x6)]) hx hb dX7_walk_70 hl (by decide) rfl (fun ls hl => ?_)
              refine lv_goto (tgt := 84) hx hb dX7_walk_72 (by decide) ?_
              refine lv_iinc (v := (x6 + 1)) (lv' := [(6, .int (x6 + 1)), (4, .int r_19), (5, .int 1), (0, .ref a_t), (2, .int x2), (3, .ref a_p3)]) hx hb dX7_walk_84 hl (k := 5) rfl rfl (by decide) rfl (fun ls hl => ?_)
              refine lv_goto (tgt := 9) hx hb dX7_walk_87 (by decide) ?_
              exact ih _ _ _ _ hw _ _ _ (hP.sub (ws' := [(a_p3, .inl (tc 0, np, .inl (upd f_p3 x6.toNatClampNeg x4))), (a_t, .inr (7, [.int t_places, .ref a_t_house, .ref a_t_view, .int t_skins, .ref a_t_girth, .ref a_t_kind, .int t_smoke, .int t_tide, .ref a_t_hiding])), (a_t_house, .inl (tc 0, 9, .inl f_t_house))]) [0, 2, 1] rfl) (hD.sub (ws' := [(a_p3, .inl (tc 0, np, .inl (upd f_p3 x6.toNatClampNeg x4))), (a_t, .inr (7, [.int t_places, .ref a_t_house, .ref a_t_view, .int t_skins, .ref a_t_girth, .ref a_t_kind, .int t_smoke, .int t_tide, .ref a_t_hiding])), (a_t_house, .inl (tc 0, 9, .inl f_t_house))]) [0, 2, 1] (by decide) rfl) hS (lv_sub hl [3, 4, 5, 1, 2, 0] rfl) k90
            · replace hw := hw.2 c_18
              refine lv_iload hx hb dX7_walk_44 (lv_at hl 3 rfl) ?_
              refine lv_aload_n hx hb dX7_walk_46 rfl (lv_at hl 0 rfl) ?_
              refine va_get (D := D) (ci := 7) (v := .int t_places) (C := RX7) (T := TX7) (N := 9) hx hb hts iX7_walk_X7 hown hK.1 hP 1 rfl rfl 0 (by decide) (hts _ fX7_walk_9) (fun _ h9 => h9) rfl dX7_walk_47 ?_
              refine lv_iconst (v := 1) hx hb dX7_walk_50 (by decide) ?_
              refine lv_isub hx hb dX7_walk_51 ?_
              refine lv_icmp_lt (tgt := 59) hx hb dX7_walk_52 (by decide) (fun c_20 => ?_) (fun c_20 => ?_)
              · replace hw := hw.1 c_20
                refine lv_iconst (v := 0) hx hb dX7_walk_59 (by decide) ?_
                refine lv_istore (lv' := [(5, .int 0), (0, .ref a_t), (2, .int x2), (3, .ref a_p3), (4, .int x4), (6, .int x6)]) hx hb dX7_walk_60 hl (by decide) rfl (fun ls hl => ?_)
                refine lv_aload_n hx hb dX7_walk_62 rfl (lv_at hl 1 rfl) ?_
                refine lv_iload hx hb dX7_walk_63 (lv_at hl 4 rfl) ?_
                refine lv_iload hx hb dX7_walk_65 (lv_at hl 0 rfl) ?_
                refine cl_i (wc := [(a_t, .inr (7, [.int t_places, .ref a_t_house, .ref a_t_view, .int t_skins, .ref a_t_girth, .ref a_t_kind, .int t_smoke, .int t_tide, .ref a_t_hiding]))]) (wr := [(a_p3, .inl (tc 0, np, .inl (upd f_p3 x6.toNatClampNeg x4))), (a_t_house, .inl (tc 0, 9, .inl f_t_house))]) hP hD hS hA [1] [0, 2] rfl rfl (by decide) (by decide) (va_runV (As := [.int x4, .int 0]) (rest := []) ⟨hx, hb, hml, hown, hts⟩ (mX7_afterFro (l := l) (D := D) (tc := tc) (sz := H.size) (a_t := a_t) (a_t_house := a_t_house) (a_t_view := a_t_view) (a_t_girth := a_t_girth) (a_t_kind := a_t_kind) (a_t_hiding := a_t_hiding) (t_places := t_places) (t_skins := t_skins) (t_smoke := t_smoke) (t_tide := t_tide) (x1 := x4) (x2 := 0) hw) (cwV 2 hts gX7_walk_X7_afterFro rfl rfl rfl (by decide +kernel) ⟨(Nat.le_of_ble_eq_true rfl), (Nat.le_of_ble_eq_true rfl)⟩) (pre_V hK hP hD [1] rfl (by decide) 1 7 rfl rfl) rfl rfl hl.1 rfl (lv_room (Nat.le_of_ble_eq_true rfl)) dX7_walk_67 ⟨(Nat.le_of_ble_eq_true rfl), (Nat.le_of_ble_eq_true rfl)⟩) (fun r_21 u_ H locs hw hP hD hS => ?_)
                have hP : va_P D vwCl [(a_p3, .inl (tc 0, np, .inl (upd f_p3 x6.toNatClampNeg x4))), (a_t_house, .inl (tc 0, 9, .inl f_t_house)), (a_t, .inr (7, [.int t_places, .ref a_t_house, .ref a_t_view, .int t_skins, .ref a_t_girth, .ref a_t_kind, .int t_smoke, .int t_tide, .ref a_t_hiding]))] H := hP
                have hD : va_D A [(a_p3, .inl (tc 0, np, .inl (upd f_p3 x6.toNatClampNeg x4))), (a_t_house, .inl (tc 0, 9, .inl f_t_house)), (a_t, .inr (7, [.int t_places, .ref a_t_house, .ref a_t_view, .int t_skins, .ref a_t_girth, .ref a_t_kind, .int t_smoke, .int t_tide, .ref a_t_hiding]))] := hD
                refine lv_istore (lv' := [(4, .int r_21), (5, .int 0), (0, .ref a_t), (2, .int x2), (3, .ref a_p3), (6, .int x6)]) hx hb dX7_walk_70 hl (by decide) rfl (fun ls hl => ?_)
                refine lv_goto (tgt := 84) hx hb dX7_walk_72 (by decide) ?_
                refine lv_iinc (v := (x6 + 1)) (lv' := [(6, .int (x6 + 1)), (4, .int r_21), (5, .int 0), (0, .ref a_t), (2, .int x2), (3, .ref a_p3)]) hx hb dX7_walk_84 hl (k := 5) rfl rfl (by decide) rfl (fun ls hl => ?_)
                refine lv_goto (tgt := 9) hx hb dX7_walk_87 (by decide) ?_
                exact ih _ _ _ _ hw _ _ _ (hP.sub (ws' := [(a_p3, .inl (tc 0, np, .inl (upd f_p3 x6.toNatClampNeg x4))), (a_t, .inr (7, [.int t_places, .ref a_t_house, .ref a_t_view, .int t_skins, .ref a_t_girth, .ref a_t_kind, .int t_smoke, .int t_tide, .ref a_t_hiding])), (a_t_house, .inl (tc 0, 9, .inl f_t_house))]) [0, 2, 1] rfl) (hD.sub (ws' := [(a_p3, .inl (tc 0, np, .inl (upd f_p3 x6.toNatClampNeg x4))), (a_t, .inr (7, [.int t_places, .ref a_t_house, .ref a_t_view, .int t_skins, .ref a_t_girth, .ref a_t_kind, .int t_smoke, .int t_tide, .ref a_t_hiding])), (a_t_house, .inl (tc 0, 9, .inl f_t_house))]) [0, 2, 1] (by decide) rfl) hS (lv_sub hl [3, 4, 5, 1, 2, 0] rfl) k90
              · replace hw := hw.2 c_20
                refine lv_iconst (v := 1) hx hb dX7_walk_55 (by decide) ?_
                refine lv_goto (tgt := 60) hx hb dX7_walk_56 (by decide) ?_
                refine lv_istore (lv' := [(5, .int 1), (0, .ref a_t), (2, .int x2), (3, .ref a_p3), (4, .int x4), (6, .int x6)]) hx hb dX7_walk_60 hl (by decide) rfl (fun ls hl => ?_)
                refine lv_aload_n hx hb dX7_walk_62 rfl (lv_at hl 1 rfl) ?_
                refine lv_iload hx hb dX7_walk_63 (lv_at hl 4 rfl) ?_
                refine lv_iload hx hb dX7_walk_65 (lv_at hl 0 rfl) ?_
                refine cl_i (wc := [(a_t, .inr (7, [.int t_places, .ref a_t_house, .ref a_t_view, .int t_skins, .ref a_t_girth, .ref a_t_kind, .int t_smoke, .int t_tide, .ref a_t_hiding]))]) (wr := [(a_p3, .inl (tc 0, np, .inl (upd f_p3 x6.toNatClampNeg x4))), (a_t_house, .inl (tc 0, 9, .inl f_t_house))]) hP hD hS hA [1] [0, 2] rfl rfl (by decide) (by decide) (va_runV (As := [.int x4, .int 1]) (rest := []) ⟨hx, hb, hml, hown, hts⟩ (mX7_afterFro (l := l) (D := D) (tc := tc) (sz := H.size) (a_t := a_t) (a_t_house := a_t_house) (a_t_view := a_t_view) (a_t_girth := a_t_girth) (a_t_kind := a_t_kind) (a_t_hiding := a_t_hiding) (t_places := t_places) (t_skins := t_skins) (t_smoke := t_smoke) (t_tide := t_tide) (x1 := x4) (x2 := 1) hw) (cwV 2 hts gX7_walk_X7_afterFro rfl rfl rfl (by decide +kernel) ⟨(Nat.le_of_ble_eq_true rfl), (Nat.le_of_ble_eq_true rfl)⟩) (pre_V hK hP hD [1] rfl (by decide) 1 7 rfl rfl) rfl rfl hl.1 rfl (lv_room (Nat.le_of_ble_eq_true rfl)) dX7_walk_67 ⟨(Nat.le_of_ble_eq_true rfl), (Nat.le_of_ble_eq_true rfl)⟩) (fun r_22 u_ H locs hw hP hD hS => ?_)
                have hP : va_P D vwCl [(a_p3, .inl (tc 0, np, .inl (upd f_p3 x6.toNatClampNeg x4))), (a_t_house, .inl (tc 0, 9, .inl f_t_house)), (a_t, .inr (7, [.int t_places, .ref a_t_house, .ref a_t_view, .int t_skins, .ref a_t_girth, .ref a_t_kind, .int t_smoke, .int t_tide, .ref a_t_hiding]))] H := hP
                have hD : va_D A [(a_p3, .inl (tc 0, np, .inl (upd f_p3 x6.toNatClampNeg x4))), (a_t_house, .inl (tc 0, 9, .inl f_t_house)), (a_t, .inr (7, [.int t_places, .ref a_t_house, .ref a_t_view, .int t_skins, .ref a_t_girth, .ref a_t_kind, .int t_smoke, .int t_tide, .ref a_t_hiding]))] := hD
                refine lv_istore (lv' := [(4, .int r_22), (5, .int 1), (0, .ref a_t), (2, .int x2), (3, .ref a_p3), (6, .int x6)]) hx hb dX7_walk_70 hl (by decide) rfl (fun ls hl => ?_)
                refine lv_goto (tgt := 84) hx hb dX7_walk_72 (by decide) ?_
                refine lv_iinc (v := (x6 + 1)) (lv' := [(6, .int (x6 + 1)), (4, .int r_22), (5, .int 1), (0, .ref a_t), (2, .int x2), (3, .ref a_p3)]) hx hb dX7_walk_84 hl (k := 5) rfl rfl (by decide) rfl (fun ls hl => ?_)
                refine lv_goto (tgt := 9) hx hb dX7_walk_87 (by decide) ?_
                exact ih _ _ _ _ hw _ _ _ (hP.sub (ws' := [(a_p3, .inl (tc 0, np, .inl (upd f_p3 x6.toNatClampNeg x4))), (a_t, .inr (7, [.int t_places, .ref a_t_house, .ref a_t_view, .int t_skins, .ref a_t_girth, .ref a_t_kind, .int t_smoke, .int t_tide, .ref a_t_hiding])), (a_t_house, .inl (tc 0, 9, .inl f_t_house))]) [0, 2, 1] rfl) (hD.sub (ws' := [(a_p3, .inl (tc 0, np, .inl (upd f_p3 x6.toNatClampNeg x4))), (a_t, .inr (7, [.int t_places, .ref a_t_house, .ref a_t_view, .int t_skins, .ref a_t_girth, .ref a_t_kind, .int t_smoke, .int t_tide, .ref a_t_hiding])), (a_t_house, .inl (tc 0, 9, .inl f_t_house))]) [0, 2, 1] (by decide) rfl) hS (lv_sub hl [3, 4, 5, 1, 2, 0] rfl) k90
set_option maxHeartbeats 4000000 in
set_option maxRecDepth 100000 in
theorem mX7_walk {l : Launch} {D : va_G} {tc : Nat → ClassId} {sz : Nat} {a_p3 a_t a_t_house a_t_view a_t_girth a_t_kind a_t_hiding : Nat} {f_p3 : Nat → Int32} {t_places : Int32} {t_skins : Int32} {t_smoke : Int32} {t_tide : Int32} {f_t_house : Nat → Int32} {np : Nat} {x1 : Int32} {x2 : Int32} {K : (Nat → Int32) → Prop} (hw : pX7_walk f_p3 t_places f_t_house np x1 x2 K) : Met l yX7_walk wsX7_walk ({ frames := 2, cells := 0, slots := 0, locals := 44 } : Room) (va_Pc [.ref a_t, .int x1, .int x2, .ref a_p3] (wpre D tc [(a_p3, .inl (tc 0, np, .inl f_p3)), (a_t, .inr (7, [.int t_places, .ref a_t_house, .ref a_t_view, .int t_skins, .ref a_t_girth, .ref a_t_kind, .int t_smoke, .int t_tide, .ref a_t_hiding])), (a_t_house, .inl (tc 0, 9, .inl f_t_house))] sz)) (va_Qv (S := (Nat → Int32)) (fun (u : (Nat → Int32)) => K u) (fun u => wpost D (va_A [(a_p3, .inl (tc 0, np, .inl f_p3)), (a_t, .inr (7, [.int t_places, .ref a_t_house, .ref a_t_view, .int t_skins, .ref a_t_girth, .ref a_t_kind, .int t_smoke, .int t_tide, .ref a_t_hiding])), (a_t_house, .inl (tc 0, 9, .inl f_t_house))] sz) [(a_p3, .inl (tc 0, np, .inl u)), (a_t, .inr (7, [.int t_places, .ref a_t_house, .ref a_t_view, .int t_skins, .ref a_t_girth, .ref a_t_kind, .int t_smoke, .int t_tide, .ref a_t_hiding])), (a_t_house, .inl (tc 0, 9, .inl f_t_house))]) (va_A [(a_p3, .inl (tc 0, np, .inl f_p3)), (a_t, .inr (7, [.int t_places, .ref a_t_house, .ref a_t_view, .int t_skins, .ref a_t_girth, .ref a_t_kind, .int t_smoke, .int t_tide, .ref a_t_hiding])), (a_t_house, .inl (tc 0, 9, .inl f_t_house))] sz)) 0 0 (va_A [(a_p3, .inl (tc 0, np, .inl f_p3)), (a_t, .inr (7, [.int t_places, .ref a_t_house, .ref a_t_view, .int t_skins, .ref a_t_girth, .ref a_t_kind, .int t_smoke, .int t_tide, .ref a_t_hiding])), (a_t_house, .inl (tc 0, 9, .inl f_t_house))] sz) := by
  refine Met.ofW (cc := cX7_walk) (maxL := 7) (ret := none) (by decide) rfl ?_
  intro p e s m args below meth c s₁ B hml hv
  obtain ⟨rfl, hsz, hP, hK, hD0⟩ := hv
  have hx := B.exec
  have hb := B.bytes
  have hr := B.returns
  have hts := atoms_spec (ws := wsX7_walk) B.pre
  have hown : s.vm.findClass RX7 = some m.cls := findClass_of_methodNamed B.named
  have hlocks := B.notSynchronized
  subst hsz
  have hD := hD0.self (sz := s.heap.size)
  generalize hAe : va_A [(a_p3, .inl (tc 0, np, .inl f_p3)), (a_t, .inr (7, [.int t_places, .ref a_t_house, .ref a_t_view, .int t_skins, .ref a_t_girth, .ref a_t_kind, .int t_smoke, .int t_tide, .ref a_t_hiding])), (a_t_house, .inl (tc 0, 9, .inl f_t_house))] s.heap.size = A at hD ⊢
  have hA : ∀ q : Nat, s.heap.size ≤ q → A q := fun q h => by rw [← hAe]; exact Or.inr h
  have C0 : cx p s m _ c RX7 cX7_walk 7 wsX7_walk D tc A := ⟨hx, hb, hml, hown, hts, hK, hA⟩
  have hS : va_S A s.heap s.heap [] := va_S.rf
  have hP : va_P D vwCl [(a_p3, .inl (tc 0, np, .inl f_p3)), (a_t, .inr (7, [.int t_places, .ref a_t_house, .ref a_t_view, .int t_skins, .ref a_t_girth, .ref a_t_kind, .int t_smoke, .int t_tide, .ref a_t_hiding])), (a_t_house, .inl (tc 0, 9, .inl f_t_house))] s.heap := hP
  have hl := lv_entry ([.ref a_t, .int x1, .int x2, .ref a_p3]) (n := 7) (Nat.le_of_ble_eq_true rfl)
  rw [lg_entry_eq]
  generalize (lg_sl ([.ref a_t, .int x1, .int x2, .ref a_p3]) ++ List.replicate (7 - (lg_sl ([.ref a_t, .int x1, .int x2, .ref a_p3])).length) Slot.unset).toArray = ls at hl ⊢
  have hl : lv_has ls 7 [(0, .ref a_t), (1, .int x1), (2, .int x2), (3, .ref a_p3)] := hl
  suffices hsf : ∀ H : Heap, H = s.heap → W p l e _ s m _ below meth c H [] 0 0 _ _ from hsf _ rfl
  intro H hHe
  have hS : va_S A s.heap H [] := by rw [hHe]; exact hS
  have hP : va_P D vwCl [(a_p3, .inl (tc 0, np, .inl f_p3)), (a_t, .inr (7, [.int t_places, .ref a_t_house, .ref a_t_view, .int t_skins, .ref a_t_girth, .ref a_t_kind, .int t_smoke, .int t_tide, .ref a_t_hiding])), (a_t_house, .inl (tc 0, 9, .inl f_t_house))] H := by rw [hHe]; exact hP
  unfold pX7_walk at hw
  refine lv_iload_n hx hb dX7_walk_0 rfl (lv_at hl 1 rfl) ?_
  refine lv_istore (lv' := [(4, .int x1), (0, .ref a_t), (1, .int x1), (2, .int x2), (3, .ref a_p3)]) hx hb dX7_walk_1 hl (by decide) rfl (fun ls hl => ?_)
  refine lv_iconst (v := 0) hx hb dX7_walk_3 (by decide) ?_
  refine lv_istore (lv' := [(5, .int 0), (4, .int x1), (0, .ref a_t), (1, .int x1), (2, .int x2), (3, .ref a_p3)]) hx hb dX7_walk_4 hl (by decide) rfl (fun ls hl => ?_)
  refine lv_iconst (v := 1) hx hb dX7_walk_6 (by decide) ?_
  refine lv_istore (lv' := [(6, .int 1), (5, .int 0), (4, .int x1), (0, .ref a_t), (1, .int x1), (2, .int x2), (3, .ref a_p3)]) hx hb dX7_walk_7 hl (by decide) rfl (fun ls hl => ?_)
  obtain ⟨n_, hw⟩ := hw
  refine lX7_walk_9 C0 n_ _ _ _ _ hw _ _ _ (hP.sub (ws' := [(a_p3, .inl (tc 0, np, .inl f_p3)), (a_t, .inr (7, [.int t_places, .ref a_t_house, .ref a_t_view, .int t_skins, .ref a_t_girth, .ref a_t_kind, .int t_smoke, .int t_tide, .ref a_t_hiding])), (a_t_house, .inl (tc 0, 9, .inl f_t_house))]) [0, 1, 2] rfl) (hD.sub (ws' := [(a_p3, .inl (tc 0, np, .inl f_p3)), (a_t, .inr (7, [.int t_places, .ref a_t_house, .ref a_t_view, .int t_skins, .ref a_t_girth, .ref a_t_kind, .int t_smoke, .int t_tide, .ref a_t_hiding])), (a_t_house, .inl (tc 0, 9, .inl f_t_house))]) [0, 1, 2] (by decide) rfl) hS (lv_sub hl [3, 5, 6, 2, 1, 0] rfl) (fun p3_23 hw H locs ls hP hD hS hl => ?_)
  · have hP9 := hP.sub (ws' := [(a_p3, .inl (tc 0, np, .inl p3_23)), (a_t, .inr (7, [.int t_places, .ref a_t_house, .ref a_t_view, .int t_skins, .ref a_t_girth, .ref a_t_kind, .int t_smoke, .int t_tide, .ref a_t_hiding])), (a_t_house, .inl (tc 0, 9, .inl f_t_house))]) [0, 1, 2] rfl
    have hD9 := hD.sub (ws' := [(a_p3, .inl (tc 0, np, .inl p3_23)), (a_t, .inr (7, [.int t_places, .ref a_t_house, .ref a_t_view, .int t_skins, .ref a_t_girth, .ref a_t_kind, .int t_smoke, .int t_tide, .ref a_t_hiding])), (a_t_house, .inl (tc 0, 9, .inl f_t_house))]) [0, 1, 2] (by decide) rfl
    exact W.vret hx hb hr (fun t ht hW => ⟨⟨p3_23, rfl, hw, by rw [ht]; exact hP9, hD9⟩, hS.F ht⟩) hS.2.2 dX7_walk_90
