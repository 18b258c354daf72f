/-! ===== new cells whose types are the ones of the list ===== -/
section NW
variable {p : Program} {l : Launch} {e : Env} {R : Room} {s : State} {m : MethodId} {args : Array Value} {below : List Frame} {meth : Method} {c : Code} {H0 H : Heap} {locs : List Loc} {cells slots : Nat} {Q : State → Prop}
variable {cc : ByteArray} {pc : Nat} {ls : Array Slot} {rest : List Value} {D : va_G} {tc : Nat → ClassId} {A : Nat → Prop} {ws : va_W}
theorem tc_eq {cl : List vw_C} {cA : ClassId} {ty : FieldType} (hra : ∀ c : ClassId, va_RA s c ty → s.vm.findClass ("[" ++ ty.toString) = some c) (k : Nat) (hk : (tyz tc)[k]? = some (tc k, ty)) (h : va_K D cl (tyz tc ++ [(cA, ty)]) s) : cA = tc k := by
  have h5 := hra cA (h.2 5 (cA, ty) rfl).2
  have hk2 : (tyz tc ++ [(cA, ty)])[k]? = some (tc k, ty) := by
    obtain ⟨hlt, _⟩ := List.getElem?_eq_some_iff.mp hk
    rw [List.getElem?_append_left hlt]; exact hk
  have h6 := hra (tc k) (h.2 k (tc k, ty) hk2).2
  rw [h5] at h6
  exact Option.some.inj h6
theorem va_newat (hexec : p.tables.exec = Jvm.exec) (hb : c.code = cc) {atype : ArrayType} (harr : (Cond.arrayClass (newarray.typeOf atype)).before args s = true) {ty : FieldType} (hty : newarray.typeOf atype = ty) (hK : va_K D vwCl (tyz tc) s) (hP : va_P D vwCl ws H) (hD : va_D A ws) (hS : va_S A H0 H locs) (hA : ∀ q, H0.size ≤ q → A q) (hra : ∀ c : ClassId, va_RA s c ty → s.vm.findClass ("[" ++ ty.toString) = some c) (k : Nat) (hk : (tyz tc)[k]? = some (tc k, ty))
    {n : Int32} {N' : Nat} {a0 : vp_A} (ha : ∀ cA : ClassId, vp_cell cA a0 = arrV cA N' (fun _ => defaultValue ty)) (hn : ¬ n < 0) (hN : n.toNatClampNeg = N') (hbytes : N' * componentBytes ty ≤ 536870912) (hcells : cells + 1 ≤ R.cells) (hslots : slots + N' ≤ R.slots) (hdg : decode cc pc = .ok (.newarray atype, 2))
    (kk : ∀ (q : Nat) (H1 : Heap), va_P D vwCl (ws ++ [(q, .inl (tc k, a0))]) H1 → va_D A (ws ++ [(q, .inl (tc k, a0))]) → va_S A H0 H1 locs → W p l e R s m args below meth c H1 locs (cells + 1) (slots + N') Q (F0 m (pc + 2) ls (.ref q :: rest))) : W p l e R s m args below meth c H locs cells slots Q (F0 m pc ls (.int n :: rest)) := by
  refine va_newa hexec hb harr hty hK hP hD hS hA ha hn hN hbytes hcells hslots hdg (fun q cA H1 hK1 hP1 hD1 hS1 => ?_)
  have e := tc_eq hra k hk hK1
  subst e
  exact kk q H1 hP1 hD1 hS1
theorem va_newqt (hexec : p.tables.exec = Jvm.exec) (hb : c.code = cc) {own : String} {index : Nat} (hown : s.vm.findClass own = some m.cls) (hclink : (Cond.classLink own index "SkinInRafters$Hiding").before args s = true) (hover : va_AO "SkinInRafters$Hiding" s) (hK : va_K D vwCl (tyz tc) s) (hP : va_P D vwCl ws H) (hD : va_D A ws) (hS : va_S A H0 H locs) (hA : ∀ q, H0.size ≤ q → A q)
    {n : Int32} {N' : Nat} (hn : ¬ n < 0) (hN : n.toNatClampNeg = N') (hbytes : N' * 4 ≤ 536870912) (hcells : cells + 1 ≤ R.cells) (hslots : slots + N' ≤ R.slots) (hdg : decode cc pc = .ok (.anewarray index, 3))
    (kk : ∀ (q : Nat) (H1 : Heap), va_P D vwCl (ws ++ [(q, .inl (tc 4, N', .inr (.inr (.inr (.inr (fun _ => none))))))]) H1 → va_D A (ws ++ [(q, .inl (tc 4, N', .inr (.inr (.inr (.inr (fun _ => none))))))]) → va_S A H0 H1 locs → W p l e R s m args below meth c H1 locs (cells + 1) (slots + N') Q (F0 m (pc + 3) ls (.ref q :: rest))) : W p l e R s m args below meth c H locs cells slots Q (F0 m pc ls (.int n :: rest)) := by
  refine va_newq hexec hb hown hclink hover hK hP hD hS hA hn hN hbytes hcells hslots hdg (fun q cA H1 hK1 hP1 hD1 hS1 => ?_)
  have e := tc_eq (fun c h => by obtain ⟨_, _, _, _, _, h4⟩ := h; exact h4) 4 rfl hK1
  subst e
  exact kk q H1 hP1 hD1 hS1
theorem rows_lit (N : Nat) (r : Nat → Nat) (f : Nat → va_E) (x : va_E) : va_pl ([] ++ (List.range N).map r) (vr_up f ((List.range N).map r) x) = (List.range N).map (fun i => (r i, x)) := by
  unfold va_pl
  rw [List.nil_append, List.map_map]
  apply List.map_congr_left
  intro i hi
  show (r i, vr_up f _ x (r i)) = (r i, x)
  rw [vr_up_in (List.mem_map.mpr ⟨i, hi, rfl⟩)]
theorem rowf_lit (N : Nat) (r : Nat → Nat) : (fun i => if i < N then some (r i) else none) = rowf ((List.range N).map r) := by
  funext i
  unfold rowf
  rw [List.getElem?_map]
  by_cases c : i < N
  · rw [if_pos c, List.getElem?_range c]; rfl
  · rw [if_neg c, List.getElem?_eq_none (by rw [List.length_range]; omega)]; rfl
theorem va_mnat (hexec : p.tables.exec = Jvm.exec) (hb : c.code = cc) {own : String} {index : Nat} (hown : s.vm.findClass own = some m.cls) (hclink : (Cond.classLink own index "[[I").before args s = true) (hover : va_AOA .int s) (harr : (Cond.arrayClass .int).before args s = true)
    (hK : va_K D vwCl (tyz tc) s) (hP : va_P D vwCl ws H) (hD : va_D A ws) (hS : va_S A H0 H locs) (hA : ∀ q, H0.size ≤ q → A q) {n k : Int32} {N' K' : Nat} (hn : ¬ n < 0) (hk : ¬ k < 0) (hN : n.toNatClampNeg = N') (hM : k.toNatClampNeg = K')
    (hb1 : N' * 4 ≤ 536870912) (hb2 : K' * componentBytes .int ≤ 536870912) (hb3 : K' ≤ 536870912) (hcells : cells + (1 + N') ≤ R.cells) (hslots : slots + (N' + N' * K') ≤ R.slots) (hdg : decode cc pc = .ok (.multianewarray index 2, 4))
    (kk : ∀ (q : Nat) (r : Nat → Nat) (H1 : Heap), va_P D vwCl ((ws ++ [(q, .inl (tc 3, N', .inr (.inr (.inr (.inr (rowf ((List.range N').map r)))))))]) ++ (List.range N').map (fun i => (r i, .inl (tc 0, K', .inl (fun _ => 0))))) H1 → va_D A ((ws ++ [(q, .inl (tc 3, N', .inr (.inr (.inr (.inr (rowf ((List.range N').map r)))))))]) ++ (List.range N').map (fun i => (r i, .inl (tc 0, K', .inl (fun _ => 0))))) → va_S A H0 H1 locs →
      W p l e R s m args below meth c H1 locs (cells + 1 + N') (slots + N' + N' * K') Q (F0 m (pc + 4) ls (.ref q :: rest))) : W p l e R s m args below meth c H locs cells slots Q (F0 m pc ls (.int k :: .int n :: rest)) := by
  have hcy : s.vm.findClass (FieldType.array .int).toString = some (tc 0) := (hK.2 0 (tc 0, .int) rfl).2
  have e0 : ws ++ va_pl [] (fun _ => (.inl (tc 0, K', .inl (fun _ => 0)) : va_E)) = ws := List.append_nil ws
  refine va_mna (X := ws) (L := []) (f := fun _ => (.inl (tc 0, K', .inl (fun _ => 0)) : va_E)) (ty := .int) (z := (K', .inl (fun _ => 0))) hexec hb hown hclink hover harr hcy hK (by rw [e0]; exact hP) (by rw [e0]; exact hD) hS hA hn hk hN hM hb1 hb2 hb3 rfl rfl hcells hslots (fun c9 => by show ({ cls := c9, slots := Array.replicate K' (defaultValue .int), vm := .none } : Cell) = arrV c9 K' (fun _ => .int 0); rw [arrV_new]; rfl) hdg (fun q r cA H1 _ _ hK1 hP1 hD1 hS1 => ?_)
  have e := tc_eq (s := s) (ty := .array .int) (fun c h => h) 3 rfl hK1
  subst e
  rw [rows_lit, rowf_lit] at hP1 hD1
  exact kk q r H1 hP1 hD1 hS1
theorem va_up2 (a b : Nat) : va_up (va_up (fun _ => none) (0 : Int32).toNatClampNeg (some a)) (1 : Int32).toNatClampNeg (some b) = rowf [a, b] := by
  rw [show (0 : Int32).toNatClampNeg = 0 from rfl, show (1 : Int32).toNatClampNeg = 1 from rfl]
  funext i
  unfold va_up rowf
  match i with
  | 0 => rfl
  | 1 => rfl
  | i + 2 => rfl
end NW
theorem iX0_init_X0 : ∀ w ∈ wsX00, w ∈ wsX0_init := by decide +kernel
theorem wX0_init_acI : Cond.arrayClass .int ∈ wsX0_init := by decide +kernel
theorem wX0_init_f15 : Cond.fieldLink RX0 15 "SkinInRafters$Changes" "skinHidden" "[I" ∈ wsX0_init := by decide +kernel
theorem wX0_init_f19 : Cond.fieldLink RX0 19 "SkinInRafters$Changes" "former" "[I" ∈ wsX0_init := by decide +kernel
theorem wX0_init_f9 : Cond.fieldLink RX0 9 "SkinInRafters$Changes" "held" "I" ∈ wsX0_init := by decide +kernel
theorem wX0_init_ml3 : Cond.methodLink RX0 3 objectInit ∈ wsX0_init := by decide +kernel
theorem wX0_init_oi : Cond.instanceMethod objectInit ∈ wsX0_init := by decide +kernel
set_option maxHeartbeats 4000000 in
set_option maxRecDepth 100000 in
theorem mX0_init {l : Launch} {D : va_G} {tc : Nat → ClassId} {sz : Nat} {a_t : Nat} : Met l yX0_init wsX0_init ({ frames := 1, cells := 2, slots := 16, locals := 12 } : Room) (va_Pc [.ref a_t] (wpre D tc [(a_t, .inr (0, [.int 0, .null, .null]))] sz)) (va_Qv (S := Nat → Nat) (fun _ => True) (fun u => wpost D (va_A [(a_t, .inr (0, [.int 0, .null, .null]))] sz) [(a_t, .inr (0, [.int 0, .ref (u 0), .ref (u 1)])), ((u 0), .inl (tc 0, 8, .inl (fun _ => 0))), ((u 1), .inl (tc 0, 8, .inl (fun _ => 0)))]) (va_A [(a_t, .inr (0, [.int 0, .null, .null]))] sz)) 2 16 (va_A [(a_t, .inr (0, [.int 0, .null, .null]))] sz) := by
  refine Met.ofW (cc := cX0_init) (maxL := 1) (ret := none) (by decide) rfl ?_
  intro p e s m args below meth c s₁ B hml hv
  obtain ⟨rfl, hsz, hP, hK, hD0⟩ := hv
  have hx := B.exec
  have hb := B.bytes
  have hr := B.returns
  have hts := atoms_spec (ws := wsX0_init) B.pre
  have hown : s.vm.findClass RX0 = some m.cls := findClass_of_methodNamed B.named
  have hlocks := B.notSynchronized
  have hin : meth.name = "<init>" := (name_of_methodNamed B.named B.method).1
  subst hsz
  have hD := hD0.self (sz := s.heap.size)
  generalize hAe : va_A [(a_t, .inr (0, [.int 0, .null, .null]))] s.heap.size = A at hD ⊢
  have hA : ∀ q : Nat, s.heap.size ≤ q → A q := fun q h => by rw [← hAe]; exact Or.inr h
  have hS : va_S A s.heap s.heap [] := va_S.rf
  have hP : va_P D vwCl [(a_t, .inr (0, [.int 0, .null, .null]))] s.heap := hP
  have hl := lv_entry ([.ref a_t]) (n := 1) (Nat.le_of_ble_eq_true rfl)
  rw [lg_entry_eq]
  generalize (lg_sl ([.ref a_t]) ++ List.replicate (1 - (lg_sl ([.ref a_t])).length) Slot.unset).toArray = ls at hl ⊢
  have hl : lv_has ls 1 [(0, .ref a_t)] := hl
  suffices hsf : ∀ H : Heap, H = s.heap → W p l e _ s m _ below meth c H [] 0 0 _ _ from hsf _ rfl
  intro H hHe
  have hS : va_S A s.heap H [] := by rw [hHe]; exact hS
  have hP : va_P D vwCl [(a_t, .inr (0, [.int 0, .null, .null]))] H := by rw [hHe]; exact hP
  refine lv_aload_n hx hb dX0_init_0 rfl (lv_at hl 0 rfl) ?_
  refine W.objInit hx hb hown (hts _ wX0_init_ml3) (hts _ wX0_init_oi) (hts _ (List.mem_of_getElem? (i := 3) rfl)) rfl (by rw [hml]; exact hl.1) rfl dX0_init_1 (Nat.le_of_ble_eq_true rfl) (Nat.le_of_ble_eq_true rfl) ?_
  refine W.eq (g2 := F0 m 4 ls []) rfl ?_
  refine lv_aload_n hx hb dX0_init_4 rfl (lv_at hl 0 rfl) ?_
  refine lv_iconst (v := 0) hx hb dX0_init_5 (by decide) ?_
  refine va_put (D := D) (ci := 0) (v := .int 0) (ty := .int) (C := RX0) (T := TX0) (N := 3) hx hb hts iX0_init_X0 tyX0 tyX0_ok nmX0 hown hK.1 hP hD hS 0 rfl rfl 0 (by decide) (hts _ wX0_init_f9) (fun _ h9 => h9) rfl (tyX0_ok 0 (by decide)) rfl rfl (Nat.le_of_ble_eq_true rfl) dX0_init_6 (fun H locs hP hD hS => ?_)
  have hP : va_P D vwCl [(a_t, .inr (0, [.int 0, .null, .null]))] H := hP
  have hD : va_D A [(a_t, .inr (0, [.int 0, .null, .null]))] := hD
  refine lv_aload_n hx hb dX0_init_9 rfl (lv_at hl 0 rfl) ?_
  refine lv_bipush (v := 8) hx hb dX0_init_10 (by decide) ?_
  refine va_newat (tc := tc) (atype := .int) (ty := .int) (N' := 8) (a0 := (8, .inl (fun _ => 0))) hx hb (hts _ wX0_init_acI) rfl hK.1 hP hD hS hA (fun _ h => h) 0 rfl (fun _ => rfl) (by decide) rfl (by decide) (Nat.le_of_ble_eq_true rfl) (Nat.le_of_ble_eq_true rfl) dX0_init_12 (fun q12 H hP hD hS => ?_)
  refine W.widen (k := 1) (n := 8) (by omega) (by omega) ?_
  have hP : va_P D vwCl [(a_t, .inr (0, [.int 0, .null, .null])), (q12, .inl (tc 0, 8, .inl (fun _ => 0)))] H := hP
  have hD : va_D A [(a_t, .inr (0, [.int 0, .null, .null])), (q12, .inl (tc 0, 8, .inl (fun _ => 0)))] := hD
  refine va_putF (D := D) (ci := 0) (v := .ref q12) (ty := .array .int) (C := RX0) (T := TX0) (N := 3) hx hb hts iX0_init_X0 tyX0 tyX0_ok nmX0 hown hK.1 hP hD hS 0 rfl rfl 1 (by decide) (hts _ wX0_init_f15) (fun _ h9 => h9) rfl hin rfl (tyX0_ok 1 (by decide)) rfl rfl (Nat.le_of_ble_eq_true rfl) dX0_init_14 (fun H locs hP hD hS => ?_)
  have hP : va_P D vwCl [(a_t, .inr (0, [.int 0, .ref q12, .null])), (q12, .inl (tc 0, 8, .inl (fun _ => 0)))] H := hP
  have hD : va_D A [(a_t, .inr (0, [.int 0, .ref q12, .null])), (q12, .inl (tc 0, 8, .inl (fun _ => 0)))] := hD
  refine lv_aload_n hx hb dX0_init_17 rfl (lv_at hl 0 rfl) ?_
  refine lv_bipush (v := 8) hx hb dX0_init_18 (by decide) ?_
  refine va_newat (tc := tc) (atype := .int) (ty := .int) (N' := 8) (a0 := (8, .inl (fun _ => 0))) hx hb (hts _ wX0_init_acI) rfl hK.1 hP hD hS hA (fun _ h => h) 0 rfl (fun _ => rfl) (by decide) rfl (by decide) (Nat.le_of_ble_eq_true rfl) (Nat.le_of_ble_eq_true rfl) dX0_init_20 (fun q20 H hP hD hS => ?_)
  refine W.widen (k := 2) (n := 16) (by omega) (by omega) ?_
  have hP : va_P D vwCl [(a_t, .inr (0, [.int 0, .ref q12, .null])), (q12, .inl (tc 0, 8, .inl (fun _ => 0))), (q20, .inl (tc 0, 8, .inl (fun _ => 0)))] H := hP
  have hD : va_D A [(a_t, .inr (0, [.int 0, .ref q12, .null])), (q12, .inl (tc 0, 8, .inl (fun _ => 0))), (q20, .inl (tc 0, 8, .inl (fun _ => 0)))] := hD
  refine va_putF (D := D) (ci := 0) (v := .ref q20) (ty := .array .int) (C := RX0) (T := TX0) (N := 3) hx hb hts iX0_init_X0 tyX0 tyX0_ok nmX0 hown hK.1 hP hD hS 0 rfl rfl 2 (by decide) (hts _ wX0_init_f19) (fun _ h9 => h9) rfl hin rfl (tyX0_ok 2 (by decide)) rfl rfl (Nat.le_of_ble_eq_true rfl) dX0_init_22 (fun H locs hP hD hS => ?_)
  have hP : va_P D vwCl [(a_t, .inr (0, [.int 0, .ref q12, .ref q20])), (q12, .inl (tc 0, 8, .inl (fun _ => 0))), (q20, .inl (tc 0, 8, .inl (fun _ => 0)))] H := hP
  have hD : va_D A [(a_t, .inr (0, [.int 0, .ref q12, .ref q20])), (q12, .inl (tc 0, 8, .inl (fun _ => 0))), (q20, .inl (tc 0, 8, .inl (fun _ => 0)))] := hD
  have hP9 := hP.sub (ws' := [(a_t, .inr (0, [.int 0, .ref q12, .ref q20])), (q12, .inl (tc 0, 8, .inl (fun _ => 0))), (q20, .inl (tc 0, 8, .inl (fun _ => 0)))]) [0, 1, 2] rfl
  have hD9 := hD.sub (ws' := [(a_t, .inr (0, [.int 0, .ref q12, .ref q20])), (q12, .inl (tc 0, 8, .inl (fun _ => 0))), (q20, .inl (tc 0, 8, .inl (fun _ => 0)))]) [0, 1, 2] (by decide) rfl
  exact W.vret hx hb hr (fun t ht hW => ⟨⟨adr [q12, q20], rfl, trivial, by rw [ht]; exact hP9, hD9⟩, hS.F ht⟩) hS.2.2 dX0_init_25
theorem iX1_init_X1 : ∀ w ∈ wsX10, w ∈ wsX1_init := by decide +kernel
theorem wX1_init_acI : Cond.arrayClass .int ∈ wsX1_init := by decide +kernel
theorem wX1_init_cl9 : Cond.classLink RX1 9 "[[I" ∈ wsX1_init := by decide +kernel
theorem wX1_init_f11 : Cond.fieldLink RX1 11 "SkinInRafters$Course" "path" "[[I" ∈ wsX1_init := by decide +kernel
theorem wX1_init_f16 : Cond.fieldLink RX1 16 "SkinInRafters$Course" "finder" "[I" ∈ wsX1_init := by decide +kernel
theorem wX1_init_f20 : Cond.fieldLink RX1 20 "SkinInRafters$Course" "prize" "[I" ∈ wsX1_init := by decide +kernel
theorem wX1_init_f23 : Cond.fieldLink RX1 23 "SkinInRafters$Course" "prizeDay" "[I" ∈ wsX1_init := by decide +kernel
theorem wX1_init_ml3 : Cond.methodLink RX1 3 objectInit ∈ wsX1_init := by decide +kernel
theorem wX1_init_oi : Cond.instanceMethod objectInit ∈ wsX1_init := by decide +kernel
set_option maxHeartbeats 4000000 in
set_option maxRecDepth 100000 in
theorem mX1_init {l : Launch} {D : va_G} {tc : Nat → ClassId} {sz : Nat} {a_t : Nat} : Met l yX1_init wsX1_init ({ frames := 1, cells := 9, slots := 325, locals := 12 } : Room) (va_Pc [.ref a_t] (wpre D tc [(a_t, .inr (1, [.null, .null, .null, .null]))] sz)) (va_Qv (S := Nat → Nat) (fun _ => True) (fun u => wpost D (va_A [(a_t, .inr (1, [.null, .null, .null, .null]))] sz) [(a_t, .inr (1, [.ref (u 0), .ref (u 6), .ref (u 7), .ref (u 8)])), ((u 0), .inl (tc 3, 5, .inr (.inr (.inr (.inr (rowf [(u 1), (u 2), (u 3), (u 4), (u 5)])))))), ((u 1), .inl (tc 0, 61, .inl ((fun _ _ => 0) 0))), ((u 2), .inl (tc 0, 61, .inl ((fun _ _ => 0) 1))), ((u 3), .inl (tc 0, 61, .inl ((fun _ _ => 0) 2))), ((u 4), .inl (tc 0, 61, .inl ((fun _ _ => 0) 3))), ((u 5), .inl (tc 0, 61, .inl ((fun _ _ => 0) 4))), ((u 6), .inl (tc 0, 5, .inl (fun _ => 0))), ((u 7), .inl (tc 0, 5, .inl (fun _ => 0))), ((u 8), .inl (tc 0, 5, .inl (fun _ => 0)))]) (va_A [(a_t, .inr (1, [.null, .null, .null, .null]))] sz)) 9 325 (va_A [(a_t, .inr (1, [.null, .null, .null, .null]))] sz) := by
  refine Met.ofW (cc := cX1_init) (maxL := 1) (ret := none) (by decide) rfl ?_
  intro p e s m args below meth c s₁ B hml hv
  obtain ⟨rfl, hsz, hP, hK, hD0⟩ := hv
  have hx := B.exec
  have hb := B.bytes
  have hr := B.returns
  have hts := atoms_spec (ws := wsX1_init) B.pre
  have hown : s.vm.findClass RX1 = some m.cls := findClass_of_methodNamed B.named
  have hlocks := B.notSynchronized
  have hin : meth.name = "<init>" := (name_of_methodNamed B.named B.method).1
  subst hsz
  have hD := hD0.self (sz := s.heap.size)
  generalize hAe : va_A [(a_t, .inr (1, [.null, .null, .null, .null]))] s.heap.size = A at hD ⊢
  have hA : ∀ q : Nat, s.heap.size ≤ q → A q := fun q h => by rw [← hAe]; exact Or.inr h
  have hS : va_S A s.heap s.heap [] := va_S.rf
  have hP : va_P D vwCl [(a_t, .inr (1, [.null, .null, .null, .null]))] s.heap := hP
  have hl := lv_entry ([.ref a_t]) (n := 1) (Nat.le_of_ble_eq_true rfl)
  rw [lg_entry_eq]
  generalize (lg_sl ([.ref a_t]) ++ List.replicate (1 - (lg_sl ([.ref a_t])).length) Slot.unset).toArray = ls at hl ⊢
  have hl : lv_has ls 1 [(0, .ref a_t)] := hl
  suffices hsf : ∀ H : Heap, H = s.heap → W p l e _ s m _ below meth c H [] 0 0 _ _ from hsf _ rfl
  intro H hHe
  have hS : va_S A s.heap H [] := by rw [hHe]; exact hS
  have hP : va_P D vwCl [(a_t, .inr (1, [.null, .null, .null, .null]))] H := by rw [hHe]; exact hP
  refine lv_aload_n hx hb dX1_init_0 rfl (lv_at hl 0 rfl) ?_
  refine W.objInit hx hb hown (hts _ wX1_init_ml3) (hts _ wX1_init_oi) (hts _ (List.mem_of_getElem? (i := 3) rfl)) rfl (by rw [hml]; exact hl.1) rfl dX1_init_1 (Nat.le_of_ble_eq_true rfl) (Nat.le_of_ble_eq_true rfl) ?_
  refine W.eq (g2 := F0 m 4 ls []) rfl ?_
  refine lv_aload_n hx hb dX1_init_4 rfl (lv_at hl 0 rfl) ?_
  refine lv_iconst (v := 5) hx hb dX1_init_5 (by decide) ?_
  refine lv_bipush (v := 61) hx hb dX1_init_6 (by decide) ?_
  refine va_mnat (tc := tc) (N' := 5) (K' := 61) hx hb hown (hts _ wX1_init_cl9) hK.2.2.2 (hts _ wX1_init_acI) hK.1 hP hD hS hA (by decide) (by decide) rfl rfl (by decide) (by decide) (by decide) (Nat.le_of_ble_eq_true rfl) (Nat.le_of_ble_eq_true rfl) dX1_init_8 (fun q8 r8 H hP hD hS => ?_)
  refine W.widen (k := 6) (n := 310) (by omega) (by omega) ?_
  have hP : va_P D vwCl [(a_t, .inr (1, [.null, .null, .null, .null])), (q8, .inl (tc 3, 5, .inr (.inr (.inr (.inr (rowf [(r8 0), (r8 1), (r8 2), (r8 3), (r8 4)])))))), ((r8 0), .inl (tc 0, 61, .inl ((fun _ _ => 0) 0))), ((r8 1), .inl (tc 0, 61, .inl ((fun _ _ => 0) 1))), ((r8 2), .inl (tc 0, 61, .inl ((fun _ _ => 0) 2))), ((r8 3), .inl (tc 0, 61, .inl ((fun _ _ => 0) 3))), ((r8 4), .inl (tc 0, 61, .inl ((fun _ _ => 0) 4)))] H := hP
  have hD : va_D A [(a_t, .inr (1, [.null, .null, .null, .null])), (q8, .inl (tc 3, 5, .inr (.inr (.inr (.inr (rowf [(r8 0), (r8 1), (r8 2), (r8 3), (r8 4)])))))), ((r8 0), .inl (tc 0, 61, .inl ((fun _ _ => 0) 0))), ((r8 1), .inl (tc 0, 61, .inl ((fun _ _ => 0) 1))), ((r8 2), .inl (tc 0, 61, .inl ((fun _ _ => 0) 2))), ((r8 3), .inl (tc 0, 61, .inl ((fun _ _ => 0) 3))), ((r8 4), .inl (tc 0, 61, .inl ((fun _ _ => 0) 4)))] := hD
  refine va_putF (D := D) (ci := 1) (v := .ref q8) (ty := .array (.array .int)) (C := RX1) (T := TX1) (N := 4) hx hb hts iX1_init_X1 tyX1 tyX1_ok nmX1 hown hK.1 hP hD hS 0 rfl rfl 0 (by decide) (hts _ wX1_init_f11) (fun _ h9 => h9) rfl hin rfl (tyX1_ok 0 (by decide)) rfl rfl (Nat.le_of_ble_eq_true rfl) dX1_init_12 (fun H locs hP hD hS => ?_)
  have hP : va_P D vwCl [(a_t, .inr (1, [.ref q8, .null, .null, .null])), (q8, .inl (tc 3, 5, .inr (.inr (.inr (.inr (rowf [(r8 0), (r8 1), (r8 2), (r8 3), (r8 4)])))))), ((r8 0), .inl (tc 0, 61, .inl ((fun _ _ => 0) 0))), ((r8 1), .inl (tc 0, 61, .inl ((fun _ _ => 0) 1))), ((r8 2), .inl (tc 0, 61, .inl ((fun _ _ => 0) 2))), ((r8 3), .inl (tc 0, 61, .inl ((fun _ _ => 0) 3))), ((r8 4), .inl (tc 0, 61, .inl ((fun _ _ => 0) 4)))] H := hP
  have hD : va_D A [(a_t, .inr (1, [.ref q8, .null, .null, .null])), (q8, .inl (tc 3, 5, .inr (.inr (.inr (.inr (rowf [(r8 0), (r8 1), (r8 2), (r8 3), (r8 4)])))))), ((r8 0), .inl (tc 0, 61, .inl ((fun _ _ => 0) 0))), ((r8 1), .inl (tc 0, 61, .inl ((fun _ _ => 0) 1))), ((r8 2), .inl (tc 0, 61, .inl ((fun _ _ => 0) 2))), ((r8 3), .inl (tc 0, 61, .inl ((fun _ _ => 0) 3))), ((r8 4), .inl (tc 0, 61, .inl ((fun _ _ => 0) 4)))] := hD
  refine lv_aload_n hx hb dX1_init_15 rfl (lv_at hl 0 rfl) ?_
  refine lv_iconst (v := 5) hx hb dX1_init_16 (by decide) ?_
  refine va_newat (tc := tc) (atype := .int) (ty := .int) (N' := 5) (a0 := (5, .inl (fun _ => 0))) hx hb (hts _ wX1_init_acI) rfl hK.1 hP hD hS hA (fun _ h => h) 0 rfl (fun _ => rfl) (by decide) rfl (by decide) (Nat.le_of_ble_eq_true rfl) (Nat.le_of_ble_eq_true rfl) dX1_init_17 (fun q17 H hP hD hS => ?_)
  refine W.widen (k := 7) (n := 315) (by omega) (by omega) ?_
  have hP : va_P D vwCl [(a_t, .inr (1, [.ref q8, .null, .null, .null])), (q8, .inl (tc 3, 5, .inr (.inr (.inr (.inr (rowf [(r8 0), (r8 1), (r8 2), (r8 3), (r8 4)])))))), ((r8 0), .inl (tc 0, 61, .inl ((fun _ _ => 0) 0))), ((r8 1), .inl (tc 0, 61, .inl ((fun _ _ => 0) 1))), ((r8 2), .inl (tc 0, 61, .inl ((fun _ _ => 0) 2))), ((r8 3), .inl (tc 0, 61, .inl ((fun _ _ => 0) 3))), ((r8 4), .inl (tc 0, 61, .inl ((fun _ _ => 0) 4))), (q17, .inl (tc 0, 5, .inl (fun _ => 0)))] H := hP
  have hD : va_D A [(a_t, .inr (1, [.ref q8, .null, .null, .null])), (q8, .inl (tc 3, 5, .inr (.inr (.inr (.inr (rowf [(r8 0), (r8 1), (r8 2), (r8 3), (r8 4)])))))), ((r8 0), .inl (tc 0, 61, .inl ((fun _ _ => 0) 0))), ((r8 1), .inl (tc 0, 61, .inl ((fun _ _ => 0) 1))), ((r8 2), .inl (tc 0, 61, .inl ((fun _ _ => 0) 2))), ((r8 3), .inl (tc 0, 61, .inl ((fun _ _ => 0) 3))), ((r8 4), .inl (tc 0, 61, .inl ((fun _ _ => 0) 4))), (q17, .inl (tc 0, 5, .inl (fun _ => 0)))] := hD
  refine va_putF (D := D) (ci := 1) (v := .ref q17) (ty := .array .int) (C := RX1) (T := TX1) (N := 4) hx hb hts iX1_init_X1 tyX1 tyX1_ok nmX1 hown hK.1 hP hD hS 0 rfl rfl 1 (by decide) (hts _ wX1_init_f16) (fun _ h9 => h9) rfl hin rfl (tyX1_ok 1 (by decide)) rfl rfl (Nat.le_of_ble_eq_true rfl) dX1_init_19 (fun H locs hP hD hS => ?_)
  have hP : va_P D vwCl [(a_t, .inr (1, [.ref q8, .ref q17, .null, .null])), (q8, .inl (tc 3, 5, .inr (.inr (.inr (.inr (rowf [(r8 0), (r8 1), (r8 2), (r8 3), (r8 4)])))))), ((r8 0), .inl (tc 0, 61, .inl ((fun _ _ => 0) 0))), ((r8 1), .inl (tc 0, 61, .inl ((fun _ _ => 0) 1))), ((r8 2), .inl (tc 0, 61, .inl ((fun _ _ => 0) 2))), ((r8 3), .inl (tc 0, 61, .inl ((fun _ _ => 0) 3))), ((r8 4), .inl (tc 0, 61, .inl ((fun _ _ => 0) 4))), (q17, .inl (tc 0, 5, .inl (fun _ => 0)))] H := hP
  have hD : va_D A [(a_t, .inr (1, [.ref q8, .ref q17, .null, .null])), (q8, .inl (tc 3, 5, .inr (.inr (.inr (.inr (rowf [(r8 0), (r8 1), (r8 2), (r8 3), (r8 4)])))))), ((r8 0), .inl (tc 0, 61, .inl ((fun _ _ => 0) 0))), ((r8 1), .inl (tc 0, 61, .inl ((fun _ _ => 0) 1))), ((r8 2), .inl (tc 0, 61, .inl ((fun _ _ => 0) 2))), ((r8 3), .inl (tc 0, 61, .inl ((fun _ _ => 0) 3))), ((r8 4), .inl (tc 0, 61, .inl ((fun _ _ => 0) 4))), (q17, .inl (tc 0, 5, .inl (fun _ => 0)))] := hD
  refine lv_aload_n hx hb dX1_init_22 rfl (lv_at hl 0 rfl) ?_
  refine lv_iconst (v := 5) hx hb dX1_init_23 (by decide) ?_
  refine va_newat (tc := tc) (atype := .int) (ty := .int) (N' := 5) (a0 := (5, .inl (fun _ => 0))) hx hb (hts _ wX1_init_acI) rfl hK.1 hP hD hS hA (fun _ h => h) 0 rfl (fun _ => rfl) (by decide) rfl (by decide) (Nat.le_of_ble_eq_true rfl) (Nat.le_of_ble_eq_true rfl) dX1_init_24 (fun q24 H hP hD hS => ?_)
  refine W.widen (k := 8) (n := 320) (by omega) (by omega) ?_
  have hP : va_P D vwCl [(a_t, .inr (1, [.ref q8, .ref q17, .null, .null])), (q8, .inl (tc 3, 5, .inr (.inr (.inr (.inr (rowf [(r8 0), (r8 1), (r8 2), (r8 3), (r8 4)])))))), ((r8 0), .inl (tc 0, 61, .inl ((fun _ _ => 0) 0))), ((r8 1), .inl (tc 0, 61, .inl ((fun _ _ => 0) 1))), ((r8 2), .inl (tc 0, 61, .inl ((fun _ _ => 0) 2))), ((r8 3), .inl (tc 0, 61, .inl ((fun _ _ => 0) 3))), ((r8 4), .inl (tc 0, 61, .inl ((fun _ _ => 0) 4))), (q17, .inl (tc 0, 5, .inl (fun _ => 0))), (q24, .inl (tc 0, 5, .inl (fun _ => 0)))] H := hP
  have hD : va_D A [(a_t, .inr (1, [.ref q8, .ref q17, .null, .null])), (q8, .inl (tc 3, 5, .inr (.inr (.inr (.inr (rowf [(r8 0), (r8 1), (r8 2), (r8 3), (r8 4)])))))), ((r8 0), .inl (tc 0, 61, .inl ((fun _ _ => 0) 0))), ((r8 1), .inl (tc 0, 61, .inl ((fun _ _ => 0) 1))), ((r8 2), .inl (tc 0, 61, .inl ((fun _ _ => 0) 2))), ((r8 3), .inl (tc 0, 61, .inl ((fun _ _ => 0) 3))), ((r8 4), .inl (tc 0, 61, .inl ((fun _ _ => 0) 4))), (q17, .inl (tc 0, 5, .inl (fun _ => 0))), (q24, .inl (tc 0, 5, .inl (fun _ => 0)))] := hD
  refine va_putF (D := D) (ci := 1) (v := .ref q24) (ty := .array .int) (C := RX1) (T := TX1) (N := 4) hx hb hts iX1_init_X1 tyX1 tyX1_ok nmX1 hown hK.1 hP hD hS 0 rfl rfl 2 (by decide) (hts _ wX1_init_f20) (fun _ h9 => h9) rfl hin rfl (tyX1_ok 2 (by decide)) rfl rfl (Nat.le_of_ble_eq_true rfl) dX1_init_26 (fun H locs hP hD hS => ?_)
  have hP : va_P D vwCl [(a_t, .inr (1, [.ref q8, .ref q17, .ref q24, .null])), (q8, .inl (tc 3, 5, .inr (.inr (.inr (.inr (rowf [(r8 0), (r8 1), (r8 2), (r8 3), (r8 4)])))))), ((r8 0), .inl (tc 0, 61, .inl ((fun _ _ => 0) 0))), ((r8 1), .inl (tc 0, 61, .inl ((fun _ _ => 0) 1))), ((r8 2), .inl (tc 0, 61, .inl ((fun _ _ => 0) 2))), ((r8 3), .inl (tc 0, 61, .inl ((fun _ _ => 0) 3))), ((r8 4), .inl (tc 0, 61, .inl ((fun _ _ => 0) 4))), (q17, .inl (tc 0, 5, .inl (fun _ => 0))), (q24, .inl (tc 0, 5, .inl (fun _ => 0)))] H := hP
  have hD : va_D A [(a_t, .inr (1, [.ref q8, .ref q17, .ref q24, .null])), (q8, .inl (tc 3, 5, .inr (.inr (.inr (.inr (rowf [(r8 0), (r8 1), (r8 2), (r8 3), (r8 4)])))))), ((r8 0), .inl (tc 0, 61, .inl ((fun _ _ => 0) 0))), ((r8 1), .inl (tc 0, 61, .inl ((fun _ _ => 0) 1))), ((r8 2), .inl (tc 0, 61, .inl ((fun _ _ => 0) 2))), ((r8 3), .inl (tc 0, 61, .inl ((fun _ _ => 0) 3))), ((r8 4), .inl (tc 0, 61, .inl ((fun _ _ => 0) 4))), (q17, .inl (tc 0, 5, .inl (fun _ => 0))), (q24, .inl (tc 0, 5, .inl (fun _ => 0)))] := hD
  refine lv_aload_n hx hb dX1_init_29 rfl (lv_at hl 0 rfl) ?_
  refine lv_iconst (v := 5) hx hb dX1_init_30 (by decide) ?_
  refine va_newat (tc := tc) (atype := .int) (ty := .int) (N' := 5) (a0 := (5, .inl (fun _ => 0))) hx hb (hts _ wX1_init_acI) rfl hK.1 hP hD hS hA (fun _ h => h) 0 rfl (fun _ => rfl) (by decide) rfl (by decide) (Nat.le_of_ble_eq_true rfl) (Nat.le_of_ble_eq_true rfl) dX1_init_31 (fun q31 H hP hD hS => ?_)
  refine W.widen (k := 9) (n := 325) (by omega) (by omega) ?_
  have hP : va_P D vwCl [(a_t, .inr (1, [.ref q8, .ref q17, .ref q24, .null])), (q8, .inl (tc 3, 5, .inr (.inr (.inr (.inr (rowf [(r8 0), (r8 1), (r8 2), (r8 3), (r8 4)])))))), ((r8 0), .inl (tc 0, 61, .inl ((fun _ _ => 0) 0))), ((r8 1), .inl (tc 0, 61, .inl ((fun _ _ => 0) 1))), ((r8 2), .inl (tc 0, 61, .inl ((fun _ _ => 0) 2))), ((r8 3), .inl (tc 0, 61, .inl ((fun _ _ => 0) 3))), ((r8 4), .inl (tc 0, 61, .inl ((fun _ _ => 0) 4))), (q17, .inl (tc 0, 5, .inl (fun _ => 0))), (q24, .inl (tc 0, 5, .inl (fun _ => 0))), (q31, .inl (tc 0, 5, .inl (fun _ => 0)))] H := hP
  have hD : va_D A [(a_t, .inr (1, [.ref q8, .ref q17, .ref q24, .null])), (q8, .inl (tc 3, 5, .inr (.inr (.inr (.inr (rowf [(r8 0), (r8 1), (r8 2), (r8 3), (r8 4)])))))), ((r8 0), .inl (tc 0, 61, .inl ((fun _ _ => 0) 0))), ((r8 1), .inl (tc 0, 61, .inl ((fun _ _ => 0) 1))), ((r8 2), .inl (tc 0, 61, .inl ((fun _ _ => 0) 2))), ((r8 3), .inl (tc 0, 61, .inl ((fun _ _ => 0) 3))), ((r8 4), .inl (tc 0, 61, .inl ((fun _ _ => 0) 4))), (q17, .inl (tc 0, 5, .inl (fun _ => 0))), (q24, .inl (tc 0, 5, .inl (fun _ => 0))), (q31, .inl (tc 0, 5, .inl (fun _ => 0)))] := hD
  refine va_putF (D := D) (ci := 1) (v := .ref q31) (ty := .array .int) (C := RX1) (T := TX1) (N := 4) hx hb hts iX1_init_X1 tyX1 tyX1_ok nmX1 hown hK.1 hP hD hS 0 rfl rfl 3 (by decide) (hts _ wX1_init_f23) (fun _ h9 => h9) rfl hin rfl (tyX1_ok 3 (by decide)) rfl rfl (Nat.le_of_ble_eq_true rfl) dX1_init_33 (fun H locs hP hD hS => ?_)
  have hP : va_P D vwCl [(a_t, .inr (1, [.ref q8, .ref q17, .ref q24, .ref q31])), (q8, .inl (tc 3, 5, .inr (.inr (.inr (.inr (rowf [(r8 0), (r8 1), (r8 2), (r8 3), (r8 4)])))))), ((r8 0), .inl (tc 0, 61, .inl ((fun _ _ => 0) 0))), ((r8 1), .inl (tc 0, 61, .inl ((fun _ _ => 0) 1))), ((r8 2), .inl (tc 0, 61, .inl ((fun _ _ => 0) 2))), ((r8 3), .inl (tc 0, 61, .inl ((fun _ _ => 0) 3))), ((r8 4), .inl (tc 0, 61, .inl ((fun _ _ => 0) 4))), (q17, .inl (tc 0, 5, .inl (fun _ => 0))), (q24, .inl (tc 0, 5, .inl (fun _ => 0))), (q31, .inl (tc 0, 5, .inl (fun _ => 0)))] H := hP
  have hD : va_D A [(a_t, .inr (1, [.ref q8, .ref q17, .ref q24, .ref q31])), (q8, .inl (tc 3, 5, .inr (.inr (.inr (.inr (rowf [(r8 0), (r8 1), (r8 2), (r8 3), (r8 4)])))))), ((r8 0), .inl (tc 0, 61, .inl ((fun _ _ => 0) 0))), ((r8 1), .inl (tc 0, 61, .inl ((fun _ _ => 0) 1))), ((r8 2), .inl (tc 0, 61, .inl ((fun _ _ => 0) 2))), ((r8 3), .inl (tc 0, 61, .inl ((fun _ _ => 0) 3))), ((r8 4), .inl (tc 0, 61, .inl ((fun _ _ => 0) 4))), (q17, .inl (tc 0, 5, .inl (fun _ => 0))), (q24, .inl (tc 0, 5, .inl (fun _ => 0))), (q31, .inl (tc 0, 5, .inl (fun _ => 0)))] := hD
  have hP9 := hP.sub (ws' := [(a_t, .inr (1, [.ref q8, .ref q17, .ref q24, .ref q31])), (q8, .inl (tc 3, 5, .inr (.inr (.inr (.inr (rowf [(r8 0), (r8 1), (r8 2), (r8 3), (r8 4)])))))), ((r8 0), .inl (tc 0, 61, .inl ((fun _ _ => 0) 0))), ((r8 1), .inl (tc 0, 61, .inl ((fun _ _ => 0) 1))), ((r8 2), .inl (tc 0, 61, .inl ((fun _ _ => 0) 2))), ((r8 3), .inl (tc 0, 61, .inl ((fun _ _ => 0) 3))), ((r8 4), .inl (tc 0, 61, .inl ((fun _ _ => 0) 4))), (q17, .inl (tc 0, 5, .inl (fun _ => 0))), (q24, .inl (tc 0, 5, .inl (fun _ => 0))), (q31, .inl (tc 0, 5, .inl (fun _ => 0)))]) [0, 1, 2, 3, 4, 5, 6, 7, 8, 9] rfl
  have hD9 := hD.sub (ws' := [(a_t, .inr (1, [.ref q8, .ref q17, .ref q24, .ref q31])), (q8, .inl (tc 3, 5, .inr (.inr (.inr (.inr (rowf [(r8 0), (r8 1), (r8 2), (r8 3), (r8 4)])))))), ((r8 0), .inl (tc 0, 61, .inl ((fun _ _ => 0) 0))), ((r8 1), .inl (tc 0, 61, .inl ((fun _ _ => 0) 1))), ((r8 2), .inl (tc 0, 61, .inl ((fun _ _ => 0) 2))), ((r8 3), .inl (tc 0, 61, .inl ((fun _ _ => 0) 3))), ((r8 4), .inl (tc 0, 61, .inl ((fun _ _ => 0) 4))), (q17, .inl (tc 0, 5, .inl (fun _ => 0))), (q24, .inl (tc 0, 5, .inl (fun _ => 0))), (q31, .inl (tc 0, 5, .inl (fun _ => 0)))]) [0, 1, 2, 3, 4, 5, 6, 7, 8, 9] (by decide) rfl
  exact W.vret hx hb hr (fun t ht hW => ⟨⟨adr [q8, (r8 0), (r8 1), (r8 2), (r8 3), (r8 4), q17, q24, q31], rfl, trivial, by rw [ht]; exact hP9, hD9⟩, hS.F ht⟩) hS.2.2 dX1_init_36
theorem iX2_init_X2 : ∀ w ∈ wsX20, w ∈ wsX2_init := by decide +kernel
theorem wX2_init_acI : Cond.arrayClass .int ∈ wsX2_init := by decide +kernel
theorem wX2_init_f15 : Cond.fieldLink RX2 15 "SkinInRafters$Hiding" "looks" "I" ∈ wsX2_init := by decide +kernel
theorem wX2_init_f19 : Cond.fieldLink RX2 19 "SkinInRafters$Hiding" "looker" "[I" ∈ wsX2_init := by decide +kernel
theorem wX2_init_f22 : Cond.fieldLink RX2 22 "SkinInRafters$Hiding" "lookPlace" "[I" ∈ wsX2_init := by decide +kernel
theorem wX2_init_f25 : Cond.fieldLink RX2 25 "SkinInRafters$Hiding" "lookDay" "[I" ∈ wsX2_init := by decide +kernel
theorem wX2_init_f9 : Cond.fieldLink RX2 9 "SkinInRafters$Hiding" "start" "[I" ∈ wsX2_init := by decide +kernel
theorem wX2_init_ml3 : Cond.methodLink RX2 3 objectInit ∈ wsX2_init := by decide +kernel
theorem wX2_init_oi : Cond.instanceMethod objectInit ∈ wsX2_init := by decide +kernel
set_option maxHeartbeats 4000000 in
set_option maxRecDepth 100000 in
theorem mX2_init {l : Launch} {D : va_G} {tc : Nat → ClassId} {sz : Nat} {a_t : Nat} : Met l yX2_init wsX2_init ({ frames := 1, cells := 4, slots := 32, locals := 12 } : Room) (va_Pc [.ref a_t] (wpre D tc [(a_t, .inr (2, [.null, .int 0, .null, .null, .null]))] sz)) (va_Qv (S := Nat → Nat) (fun _ => True) (fun u => wpost D (va_A [(a_t, .inr (2, [.null, .int 0, .null, .null, .null]))] sz) [(a_t, .inr (2, [.ref (u 0), .int 0, .ref (u 1), .ref (u 2), .ref (u 3)])), ((u 0), .inl (tc 0, 5, .inl (fun _ => 0))), ((u 1), .inl (tc 0, 9, .inl (fun _ => 0))), ((u 2), .inl (tc 0, 9, .inl (fun _ => 0))), ((u 3), .inl (tc 0, 9, .inl (fun _ => 0)))]) (va_A [(a_t, .inr (2, [.null, .int 0, .null, .null, .null]))] sz)) 4 32 (va_A [(a_t, .inr (2, [.null, .int 0, .null, .null, .null]))] sz) := by
  refine Met.ofW (cc := cX2_init) (maxL := 1) (ret := none) (by decide) rfl ?_
  intro p e s m args below meth c s₁ B hml hv
  obtain ⟨rfl, hsz, hP, hK, hD0⟩ := hv
  have hx := B.exec
  have hb := B.bytes
  have hr := B.returns
  have hts := atoms_spec (ws := wsX2_init) B.pre
  have hown : s.vm.findClass RX2 = some m.cls := findClass_of_methodNamed B.named
  have hlocks := B.notSynchronized
  have hin : meth.name = "<init>" := (name_of_methodNamed B.named B.method).1
  subst hsz
  have hD := hD0.self (sz := s.heap.size)
  generalize hAe : va_A [(a_t, .inr (2, [.null, .int 0, .null, .null, .null]))] s.heap.size = A at hD ⊢
  have hA : ∀ q : Nat, s.heap.size ≤ q → A q := fun q h => by rw [← hAe]; exact Or.inr h
  have hS : va_S A s.heap s.heap [] := va_S.rf
  have hP : va_P D vwCl [(a_t, .inr (2, [.null, .int 0, .null, .null, .null]))] s.heap := hP
  have hl := lv_entry ([.ref a_t]) (n := 1) (Nat.le_of_ble_eq_true rfl)
  rw [lg_entry_eq]
  generalize (lg_sl ([.ref a_t]) ++ List.replicate (1 - (lg_sl ([.ref a_t])).length) Slot.unset).toArray = ls at hl ⊢
  have hl : lv_has ls 1 [(0, .ref a_t)] := hl
  suffices hsf : ∀ H : Heap, H = s.heap → W p l e _ s m _ below meth c H [] 0 0 _ _ from hsf _ rfl
  intro H hHe
  have hS : va_S A s.heap H [] := by rw [hHe]; exact hS
  have hP : va_P D vwCl [(a_t, .inr (2, [.null, .int 0, .null, .null, .null]))] H := by rw [hHe]; exact hP
  refine lv_aload_n hx hb dX2_init_0 rfl (lv_at hl 0 rfl) ?_
  refine W.objInit hx hb hown (hts _ wX2_init_ml3) (hts _ wX2_init_oi) (hts _ (List.mem_of_getElem? (i := 3) rfl)) rfl (by rw [hml]; exact hl.1) rfl dX2_init_1 (Nat.le_of_ble_eq_true rfl) (Nat.le_of_ble_eq_true rfl) ?_
  refine W.eq (g2 := F0 m 4 ls []) rfl ?_
  refine lv_aload_n hx hb dX2_init_4 rfl (lv_at hl 0 rfl) ?_
  refine lv_iconst (v := 5) hx hb dX2_init_5 (by decide) ?_
  refine va_newat (tc := tc) (atype := .int) (ty := .int) (N' := 5) (a0 := (5, .inl (fun _ => 0))) hx hb (hts _ wX2_init_acI) rfl hK.1 hP hD hS hA (fun _ h => h) 0 rfl (fun _ => rfl) (by decide) rfl (by decide) (Nat.le_of_ble_eq_true rfl) (Nat.le_of_ble_eq_true rfl) dX2_init_6 (fun q6 H hP hD hS => ?_)
  refine W.widen (k := 1) (n := 5) (by omega) (by omega) ?_
  have hP : va_P D vwCl [(a_t, .inr (2, [.null, .int 0, .null, .null, .null])), (q6, .inl (tc 0, 5, .inl (fun _ => 0)))] H := hP
  have hD : va_D A [(a_t, .inr (2, [.null, .int 0, .null, .null, .null])), (q6, .inl (tc 0, 5, .inl (fun _ => 0)))] := hD
  refine va_putF (D := D) (ci := 2) (v := .ref q6) (ty := .array .int) (C := RX2) (T := TX2) (N := 5) hx hb hts iX2_init_X2 tyX2 tyX2_ok nmX2 hown hK.1 hP hD hS 0 rfl rfl 0 (by decide) (hts _ wX2_init_f9) (fun _ h9 => h9) rfl hin rfl (tyX2_ok 0 (by decide)) rfl rfl (Nat.le_of_ble_eq_true rfl) dX2_init_8 (fun H locs hP hD hS => ?_)
  have hP : va_P D vwCl [(a_t, .inr (2, [.ref q6, .int 0, .null, .null, .null])), (q6, .inl (tc 0, 5, .inl (fun _ => 0)))] H := hP
  have hD : va_D A [(a_t, .inr (2, [.ref q6, .int 0, .null, .null, .null])), (q6, .inl (tc 0, 5, .inl (fun _ => 0)))] := hD
  refine lv_aload_n hx hb dX2_init_11 rfl (lv_at hl 0 rfl) ?_
  refine lv_iconst (v := 0) hx hb dX2_init_12 (by decide) ?_
  refine va_put (D := D) (ci := 2) (v := .int 0) (ty := .int) (C := RX2) (T := TX2) (N := 5) hx hb hts iX2_init_X2 tyX2 tyX2_ok nmX2 hown hK.1 hP hD hS 0 rfl rfl 1 (by decide) (hts _ wX2_init_f15) (fun _ h9 => h9) rfl (tyX2_ok 1 (by decide)) rfl rfl (Nat.le_of_ble_eq_true rfl) dX2_init_13 (fun H locs hP hD hS => ?_)
  have hP : va_P D vwCl [(a_t, .inr (2, [.ref q6, .int 0, .null, .null, .null])), (q6, .inl (tc 0, 5, .inl (fun _ => 0)))] H := hP
  have hD : va_D A [(a_t, .inr (2, [.ref q6, .int 0, .null, .null, .null])), (q6, .inl (tc 0, 5, .inl (fun _ => 0)))] := hD
  refine lv_aload_n hx hb dX2_init_16 rfl (lv_at hl 0 rfl) ?_
  refine lv_bipush (v := 9) hx hb dX2_init_17 (by decide) ?_
  refine va_newat (tc := tc) (atype := .int) (ty := .int) (N' := 9) (a0 := (9, .inl (fun _ => 0))) hx hb (hts _ wX2_init_acI) rfl hK.1 hP hD hS hA (fun _ h => h) 0 rfl (fun _ => rfl) (by decide) rfl (by decide) (Nat.le_of_ble_eq_true rfl) (Nat.le_of_ble_eq_true rfl) dX2_init_19 (fun q19 H hP hD hS => ?_)
  refine W.widen (k := 2) (n := 14) (by omega) (by omega) ?_
  have hP : va_P D vwCl [(a_t, .inr (2, [.ref q6, .int 0, .null, .null, .null])), (q6, .inl (tc 0, 5, .inl (fun _ => 0))), (q19, .inl (tc 0, 9, .inl (fun _ => 0)))] H := hP
  have hD : va_D A [(a_t, .inr (2, [.ref q6, .int 0, .null, .null, .null])), (q6, .inl (tc 0, 5, .inl (fun _ => 0))), (q19, .inl (tc 0, 9, .inl (fun _ => 0)))] := hD
  refine va_putF (D := D) (ci := 2) (v := .ref q19) (ty := .array .int) (C := RX2) (T := TX2) (N := 5) hx hb hts iX2_init_X2 tyX2 tyX2_ok nmX2 hown hK.1 hP hD hS 0 rfl rfl 2 (by decide) (hts _ wX2_init_f19) (fun _ h9 => h9) rfl hin rfl (tyX2_ok 2 (by decide)) rfl rfl (Nat.le_of_ble_eq_true rfl) dX2_init_21 (fun H locs hP hD hS => ?_)
  have hP : va_P D vwCl [(a_t, .inr (2, [.ref q6, .int 0, .ref q19, .null, .null])), (q6, .inl (tc 0, 5, .inl (fun _ => 0))), (q19, .inl (tc 0, 9, .inl (fun _ => 0)))] H := hP
  have hD : va_D A [(a_t, .inr (2, [.ref q6, .int 0, .ref q19, .null, .null])), (q6, .inl (tc 0, 5, .inl (fun _ => 0))), (q19, .inl (tc 0, 9, .inl (fun _ => 0)))] := hD
  refine lv_aload_n hx hb dX2_init_24 rfl (lv_at hl 0 rfl) ?_
  refine lv_bipush (v := 9) hx hb dX2_init_25 (by decide) ?_
  refine va_newat (tc := tc) (atype := .int) (ty := .int) (N' := 9) (a0 := (9, .inl (fun _ => 0))) hx hb (hts _ wX2_init_acI) rfl hK.1 hP hD hS hA (fun _ h => h) 0 rfl (fun _ => rfl) (by decide) rfl (by decide) (Nat.le_of_ble_eq_true rfl) (Nat.le_of_ble_eq_true rfl) dX2_init_27 (fun q27 H hP hD hS => ?_)
  refine W.widen (k := 3) (n := 23) (by omega) (by omega) ?_
  have hP : va_P D vwCl [(a_t, .inr (2, [.ref q6, .int 0, .ref q19, .null, .null])), (q6, .inl (tc 0, 5, .inl (fun _ => 0))), (q19, .inl (tc 0, 9, .inl (fun _ => 0))), (q27, .inl (tc 0, 9, .inl (fun _ => 0)))] H := hP
  have hD : va_D A [(a_t, .inr (2, [.ref q6, .int 0, .ref q19, .null, .null])), (q6, .inl (tc 0, 5, .inl (fun _ => 0))), (q19, .inl (tc 0, 9, .inl (fun _ => 0))), (q27, .inl (tc 0, 9, .inl (fun _ => 0)))] := hD
  refine va_putF (D := D) (ci := 2) (v := .ref q27) (ty := .array .int) (C := RX2) (T := TX2) (N := 5) hx hb hts iX2_init_X2 tyX2 tyX2_ok nmX2 hown hK.1 hP hD hS 0 rfl rfl 3 (by decide) (hts _ wX2_init_f22) (fun _ h9 => h9) rfl hin rfl (tyX2_ok 3 (by decide)) rfl rfl (Nat.le_of_ble_eq_true rfl) dX2_init_29 (fun H locs hP hD hS => ?_)
  have hP : va_P D vwCl [(a_t, .inr (2, [.ref q6, .int 0, .ref q19, .ref q27, .null])), (q6, .inl (tc 0, 5, .inl (fun _ => 0))), (q19, .inl (tc 0, 9, .inl (fun _ => 0))), (q27, .inl (tc 0, 9, .inl (fun _ => 0)))] H := hP
  have hD : va_D A [(a_t, .inr (2, [.ref q6, .int 0, .ref q19, .ref q27, .null])), (q6, .inl (tc 0, 5, .inl (fun _ => 0))), (q19, .inl (tc 0, 9, .inl (fun _ => 0))), (q27, .inl (tc 0, 9, .inl (fun _ => 0)))] := hD
  refine lv_aload_n hx hb dX2_init_32 rfl (lv_at hl 0 rfl) ?_
  refine lv_bipush (v := 9) hx hb dX2_init_33 (by decide) ?_
  refine va_newat (tc := tc) (atype := .int) (ty := .int) (N' := 9) (a0 := (9, .inl (fun _ => 0))) hx hb (hts _ wX2_init_acI) rfl hK.1 hP hD hS hA (fun _ h => h) 0 rfl (fun _ => rfl) (by decide) rfl (by decide) (Nat.le_of_ble_eq_true rfl) (Nat.le_of_ble_eq_true rfl) dX2_init_35 (fun q35 H hP hD hS => ?_)
  refine W.widen (k := 4) (n := 32) (by omega) (by omega) ?_
  have hP : va_P D vwCl [(a_t, .inr (2, [.ref q6, .int 0, .ref q19, .ref q27, .null])), (q6, .inl (tc 0, 5, .inl (fun _ => 0))), (q19, .inl (tc 0, 9, .inl (fun _ => 0))), (q27, .inl (tc 0, 9, .inl (fun _ => 0))), (q35, .inl (tc 0, 9, .inl (fun _ => 0)))] H := hP
  have hD : va_D A [(a_t, .inr (2, [.ref q6, .int 0, .ref q19, .ref q27, .null])), (q6, .inl (tc 0, 5, .inl (fun _ => 0))), (q19, .inl (tc 0, 9, .inl (fun _ => 0))), (q27, .inl (tc 0, 9, .inl (fun _ => 0))), (q35, .inl (tc 0, 9, .inl (fun _ => 0)))] := hD
  refine va_putF (D := D) (ci := 2) (v := .ref q35) (ty := .array .int) (C := RX2) (T := TX2) (N := 5) hx hb hts iX2_init_X2 tyX2 tyX2_ok nmX2 hown hK.1 hP hD hS 0 rfl rfl 4 (by decide) (hts _ wX2_init_f25) (fun _ h9 => h9) rfl hin rfl (tyX2_ok 4 (by decide)) rfl rfl (Nat.le_of_ble_eq_true rfl) dX2_init_37 (fun H locs hP hD hS => ?_)
  have hP : va_P D vwCl [(a_t, .inr (2, [.ref q6, .int 0, .ref q19, .ref q27, .ref q35])), (q6, .inl (tc 0, 5, .inl (fun _ => 0))), (q19, .inl (tc 0, 9, .inl (fun _ => 0))), (q27, .inl (tc 0, 9, .inl (fun _ => 0))), (q35, .inl (tc 0, 9, .inl (fun _ => 0)))] H := hP
  have hD : va_D A [(a_t, .inr (2, [.ref q6, .int 0, .ref q19, .ref q27, .ref q35])), (q6, .inl (tc 0, 5, .inl (fun _ => 0))), (q19, .inl (tc 0, 9, .inl (fun _ => 0))), (q27, .inl (tc 0, 9, .inl (fun _ => 0))), (q35, .inl (tc 0, 9, .inl (fun _ => 0)))] := hD
  have hP9 := hP.sub (ws' := [(a_t, .inr (2, [.ref q6, .int 0, .ref q19, .ref q27, .ref q35])), (q6, .inl (tc 0, 5, .inl (fun _ => 0))), (q19, .inl (tc 0, 9, .inl (fun _ => 0))), (q27, .inl (tc 0, 9, .inl (fun _ => 0))), (q35, .inl (tc 0, 9, .inl (fun _ => 0)))]) [0, 1, 2, 3, 4] rfl
  have hD9 := hD.sub (ws' := [(a_t, .inr (2, [.ref q6, .int 0, .ref q19, .ref q27, .ref q35])), (q6, .inl (tc 0, 5, .inl (fun _ => 0))), (q19, .inl (tc 0, 9, .inl (fun _ => 0))), (q27, .inl (tc 0, 9, .inl (fun _ => 0))), (q35, .inl (tc 0, 9, .inl (fun _ => 0)))]) [0, 1, 2, 3, 4] (by decide) rfl
  exact W.vret hx hb hr (fun t ht hW => ⟨⟨adr [q6, q19, q27, q35], rfl, trivial, by rw [ht]; exact hP9, hD9⟩, hS.F ht⟩) hS.2.2 dX2_init_40
theorem iX3_init_X3 : ∀ w ∈ wsX30, w ∈ wsX3_init := by decide +kernel
theorem wX3_init_acB : Cond.arrayClass .byte ∈ wsX3_init := by decide +kernel
theorem wX3_init_acI : Cond.arrayClass .int ∈ wsX3_init := by decide +kernel
theorem wX3_init_f15 : Cond.fieldLink RX3 15 "SkinInRafters$Scroll" "length" "I" ∈ wsX3_init := by decide +kernel
theorem wX3_init_f19 : Cond.fieldLink RX3 19 "SkinInRafters$Scroll" "numbers" "[I" ∈ wsX3_init := by decide +kernel
theorem wX3_init_f9 : Cond.fieldLink RX3 9 "SkinInRafters$Scroll" "bytes" "[B" ∈ wsX3_init := by decide +kernel
theorem wX3_init_ml3 : Cond.methodLink RX3 3 objectInit ∈ wsX3_init := by decide +kernel
theorem wX3_init_oi : Cond.instanceMethod objectInit ∈ wsX3_init := by decide +kernel
set_option maxHeartbeats 4000000 in
set_option maxRecDepth 100000 in
theorem mX3_init {l : Launch} {D : va_G} {tc : Nat → ClassId} {sz : Nat} {a_t : Nat} : Met l yX3_init wsX3_init ({ frames := 1, cells := 2, slots := 303, locals := 12 } : Room) (va_Pc [.ref a_t] (wpre D tc [(a_t, .inr (3, [.null, .int 0, .null]))] sz)) (va_Qv (S := Nat → Nat) (fun _ => True) (fun u => wpost D (va_A [(a_t, .inr (3, [.null, .int 0, .null]))] sz) [(a_t, .inr (3, [.ref (u 0), .int 0, .ref (u 1)])), ((u 0), .inl (tc 1, 300, .inl (fun _ => 0))), ((u 1), .inl (tc 0, 3, .inl (fun _ => 0)))]) (va_A [(a_t, .inr (3, [.null, .int 0, .null]))] sz)) 2 303 (va_A [(a_t, .inr (3, [.null, .int 0, .null]))] sz) := by
  refine Met.ofW (cc := cX3_init) (maxL := 1) (ret := none) (by decide) rfl ?_
  intro p e s m args below meth c s₁ B hml hv
  obtain ⟨rfl, hsz, hP, hK, hD0⟩ := hv
  have hx := B.exec
  have hb := B.bytes
  have hr := B.returns
  have hts := atoms_spec (ws := wsX3_init) B.pre
  have hown : s.vm.findClass RX3 = some m.cls := findClass_of_methodNamed B.named
  have hlocks := B.notSynchronized
  have hin : meth.name = "<init>" := (name_of_methodNamed B.named B.method).1
  subst hsz
  have hD := hD0.self (sz := s.heap.size)
  generalize hAe : va_A [(a_t, .inr (3, [.null, .int 0, .null]))] s.heap.size = A at hD ⊢
  have hA : ∀ q : Nat, s.heap.size ≤ q → A q := fun q h => by rw [← hAe]; exact Or.inr h
  have hS : va_S A s.heap s.heap [] := va_S.rf
  have hP : va_P D vwCl [(a_t, .inr (3, [.null, .int 0, .null]))] s.heap := hP
  have hl := lv_entry ([.ref a_t]) (n := 1) (Nat.le_of_ble_eq_true rfl)
  rw [lg_entry_eq]
  generalize (lg_sl ([.ref a_t]) ++ List.replicate (1 - (lg_sl ([.ref a_t])).length) Slot.unset).toArray = ls at hl ⊢
  have hl : lv_has ls 1 [(0, .ref a_t)] := hl
  suffices hsf : ∀ H : Heap, H = s.heap → W p l e _ s m _ below meth c H [] 0 0 _ _ from hsf _ rfl
  intro H hHe
  have hS : va_S A s.heap H [] := by rw [hHe]; exact hS
  have hP : va_P D vwCl [(a_t, .inr (3, [.null, .int 0, .null]))] H := by rw [hHe]; exact hP
  refine lv_aload_n hx hb dX3_init_0 rfl (lv_at hl 0 rfl) ?_
  refine W.objInit hx hb hown (hts _ wX3_init_ml3) (hts _ wX3_init_oi) (hts _ (List.mem_of_getElem? (i := 3) rfl)) rfl (by rw [hml]; exact hl.1) rfl dX3_init_1 (Nat.le_of_ble_eq_true rfl) (Nat.le_of_ble_eq_true rfl) ?_
  refine W.eq (g2 := F0 m 4 ls []) rfl ?_
  refine lv_aload_n hx hb dX3_init_4 rfl (lv_at hl 0 rfl) ?_
  refine lv_sipush (v := 300) hx hb dX3_init_5 (by decide) ?_
  refine va_newat (tc := tc) (atype := .byte) (ty := .byte) (N' := 300) (a0 := (300, .inl (fun _ => 0))) hx hb (hts _ wX3_init_acB) rfl hK.1 hP hD hS hA (fun _ h => h) 1 rfl (fun _ => rfl) (by decide) rfl (by decide) (Nat.le_of_ble_eq_true rfl) (Nat.le_of_ble_eq_true rfl) dX3_init_8 (fun q8 H hP hD hS => ?_)
  refine W.widen (k := 1) (n := 300) (by omega) (by omega) ?_
  have hP : va_P D vwCl [(a_t, .inr (3, [.null, .int 0, .null])), (q8, .inl (tc 1, 300, .inl (fun _ => 0)))] H := hP
  have hD : va_D A [(a_t, .inr (3, [.null, .int 0, .null])), (q8, .inl (tc 1, 300, .inl (fun _ => 0)))] := hD
  refine va_putF (D := D) (ci := 3) (v := .ref q8) (ty := .array .byte) (C := RX3) (T := TX3) (N := 3) hx hb hts iX3_init_X3 tyX3 tyX3_ok nmX3 hown hK.1 hP hD hS 0 rfl rfl 0 (by decide) (hts _ wX3_init_f9) (fun _ h9 => h9) rfl hin rfl (tyX3_ok 0 (by decide)) rfl rfl (Nat.le_of_ble_eq_true rfl) dX3_init_10 (fun H locs hP hD hS => ?_)
  have hP : va_P D vwCl [(a_t, .inr (3, [.ref q8, .int 0, .null])), (q8, .inl (tc 1, 300, .inl (fun _ => 0)))] H := hP
  have hD : va_D A [(a_t, .inr (3, [.ref q8, .int 0, .null])), (q8, .inl (tc 1, 300, .inl (fun _ => 0)))] := hD
  refine lv_aload_n hx hb dX3_init_13 rfl (lv_at hl 0 rfl) ?_
  refine lv_iconst (v := 0) hx hb dX3_init_14 (by decide) ?_
  refine va_put (D := D) (ci := 3) (v := .int 0) (ty := .int) (C := RX3) (T := TX3) (N := 3) hx hb hts iX3_init_X3 tyX3 tyX3_ok nmX3 hown hK.1 hP hD hS 0 rfl rfl 1 (by decide) (hts _ wX3_init_f15) (fun _ h9 => h9) rfl (tyX3_ok 1 (by decide)) rfl rfl (Nat.le_of_ble_eq_true rfl) dX3_init_15 (fun H locs hP hD hS => ?_)
  have hP : va_P D vwCl [(a_t, .inr (3, [.ref q8, .int 0, .null])), (q8, .inl (tc 1, 300, .inl (fun _ => 0)))] H := hP
  have hD : va_D A [(a_t, .inr (3, [.ref q8, .int 0, .null])), (q8, .inl (tc 1, 300, .inl (fun _ => 0)))] := hD
  refine lv_aload_n hx hb dX3_init_18 rfl (lv_at hl 0 rfl) ?_
  refine lv_iconst (v := 3) hx hb dX3_init_19 (by decide) ?_
  refine va_newat (tc := tc) (atype := .int) (ty := .int) (N' := 3) (a0 := (3, .inl (fun _ => 0))) hx hb (hts _ wX3_init_acI) rfl hK.1 hP hD hS hA (fun _ h => h) 0 rfl (fun _ => rfl) (by decide) rfl (by decide) (Nat.le_of_ble_eq_true rfl) (Nat.le_of_ble_eq_true rfl) dX3_init_20 (fun q20 H hP hD hS => ?_)
  refine W.widen (k := 2) (n := 303) (by omega) (by omega) ?_
  have hP : va_P D vwCl [(a_t, .inr (3, [.ref q8, .int 0, .null])), (q8, .inl (tc 1, 300, .inl (fun _ => 0))), (q20, .inl (tc 0, 3, .inl (fun _ => 0)))] H := hP
  have hD : va_D A [(a_t, .inr (3, [.ref q8, .int 0, .null])), (q8, .inl (tc 1, 300, .inl (fun _ => 0))), (q20, .inl (tc 0, 3, .inl (fun _ => 0)))] := hD
  refine va_putF (D := D) (ci := 3) (v := .ref q20) (ty := .array .int) (C := RX3) (T := TX3) (N := 3) hx hb hts iX3_init_X3 tyX3 tyX3_ok nmX3 hown hK.1 hP hD hS 0 rfl rfl 2 (by decide) (hts _ wX3_init_f19) (fun _ h9 => h9) rfl hin rfl (tyX3_ok 2 (by decide)) rfl rfl (Nat.le_of_ble_eq_true rfl) dX3_init_22 (fun H locs hP hD hS => ?_)
  have hP : va_P D vwCl [(a_t, .inr (3, [.ref q8, .int 0, .ref q20])), (q8, .inl (tc 1, 300, .inl (fun _ => 0))), (q20, .inl (tc 0, 3, .inl (fun _ => 0)))] H := hP
  have hD : va_D A [(a_t, .inr (3, [.ref q8, .int 0, .ref q20])), (q8, .inl (tc 1, 300, .inl (fun _ => 0))), (q20, .inl (tc 0, 3, .inl (fun _ => 0)))] := hD
  have hP9 := hP.sub (ws' := [(a_t, .inr (3, [.ref q8, .int 0, .ref q20])), (q8, .inl (tc 1, 300, .inl (fun _ => 0))), (q20, .inl (tc 0, 3, .inl (fun _ => 0)))]) [0, 1, 2] rfl
  have hD9 := hD.sub (ws' := [(a_t, .inr (3, [.ref q8, .int 0, .ref q20])), (q8, .inl (tc 1, 300, .inl (fun _ => 0))), (q20, .inl (tc 0, 3, .inl (fun _ => 0)))]) [0, 1, 2] (by decide) rfl
  exact W.vret hx hb hr (fun t ht hW => ⟨⟨adr [q8, q20], rfl, trivial, by rw [ht]; exact hP9, hD9⟩, hS.F ht⟩) hS.2.2 dX3_init_25
theorem iX4_init_X4 : ∀ w ∈ wsX40, w ∈ wsX4_init := by decide +kernel
theorem wX4_init_acI : Cond.arrayClass .int ∈ wsX4_init := by decide +kernel
theorem wX4_init_cl18 : Cond.classLink RX4 18 "[[I" ∈ wsX4_init := by decide +kernel
theorem wX4_init_f15 : Cond.fieldLink RX4 15 "SkinInRafters$Search" "firstPlace" "I" ∈ wsX4_init := by decide +kernel
theorem wX4_init_f20 : Cond.fieldLink RX4 20 "SkinInRafters$Search" "path" "[[I" ∈ wsX4_init := by decide +kernel
theorem wX4_init_f23 : Cond.fieldLink RX4 23 "SkinInRafters$Search" "met" "[I" ∈ wsX4_init := by decide +kernel
theorem wX4_init_f27 : Cond.fieldLink RX4 27 "SkinInRafters$Search" "opening" "[I" ∈ wsX4_init := by decide +kernel
theorem wX4_init_f9 : Cond.fieldLink RX4 9 "SkinInRafters$Search" "days" "I" ∈ wsX4_init := by decide +kernel
theorem wX4_init_ml3 : Cond.methodLink RX4 3 objectInit ∈ wsX4_init := by decide +kernel
theorem wX4_init_oi : Cond.instanceMethod objectInit ∈ wsX4_init := by decide +kernel
set_option maxHeartbeats 4000000 in
set_option maxRecDepth 100000 in
theorem mX4_init {l : Launch} {D : va_G} {tc : Nat → ClassId} {sz : Nat} {a_t : Nat} : Met l yX4_init wsX4_init ({ frames := 1, cells := 12, slots := 899, locals := 12 } : Room) (va_Pc [.ref a_t] (wpre D tc [(a_t, .inr (4, [.int 0, .int 0, .null, .null, .null]))] sz)) (va_Qv (S := Nat → Nat) (fun _ => True) (fun u => wpost D (va_A [(a_t, .inr (4, [.int 0, .int 0, .null, .null, .null]))] sz) [(a_t, .inr (4, [.int 0, .int (-4), .ref (u 0), .ref (u 10), .ref (u 11)])), ((u 0), .inl (tc 3, 9, .inr (.inr (.inr (.inr (rowf [(u 1), (u 2), (u 3), (u 4), (u 5), (u 6), (u 7), (u 8), (u 9)])))))), ((u 1), .inl (tc 0, 41, .inl ((fun _ _ => 0) 0))), ((u 2), .inl (tc 0, 41, .inl ((fun _ _ => 0) 1))), ((u 3), .inl (tc 0, 41, .inl ((fun _ _ => 0) 2))), ((u 4), .inl (tc 0, 41, .inl ((fun _ _ => 0) 3))), ((u 5), .inl (tc 0, 41, .inl ((fun _ _ => 0) 4))), ((u 6), .inl (tc 0, 41, .inl ((fun _ _ => 0) 5))), ((u 7), .inl (tc 0, 41, .inl ((fun _ _ => 0) 6))), ((u 8), .inl (tc 0, 41, .inl ((fun _ _ => 0) 7))), ((u 9), .inl (tc 0, 41, .inl ((fun _ _ => 0) 8))), ((u 10), .inl (tc 0, 9, .inl (fun _ => 0))), ((u 11), .inl (tc 0, 512, .inl (fun _ => 0)))]) (va_A [(a_t, .inr (4, [.int 0, .int 0, .null, .null, .null]))] sz)) 12 899 (va_A [(a_t, .inr (4, [.int 0, .int 0, .null, .null, .null]))] sz) := by
  refine Met.ofW (cc := cX4_init) (maxL := 1) (ret := none) (by decide) rfl ?_
  intro p e s m args below meth c s₁ B hml hv
  obtain ⟨rfl, hsz, hP, hK, hD0⟩ := hv
  have hx := B.exec
  have hb := B.bytes
  have hr := B.returns
  have hts := atoms_spec (ws := wsX4_init) B.pre
  have hown : s.vm.findClass RX4 = some m.cls := findClass_of_methodNamed B.named
  have hlocks := B.notSynchronized
  have hin : meth.name = "<init>" := (name_of_methodNamed B.named B.method).1
  subst hsz
  have hD := hD0.self (sz := s.heap.size)
  generalize hAe : va_A [(a_t, .inr (4, [.int 0, .int 0, .null, .null, .null]))] s.heap.size = A at hD ⊢
  have hA : ∀ q : Nat, s.heap.size ≤ q → A q := fun q h => by rw [← hAe]; exact Or.inr h
  have hS : va_S A s.heap s.heap [] := va_S.rf
  have hP : va_P D vwCl [(a_t, .inr (4, [.int 0, .int 0, .null, .null, .null]))] s.heap := hP
  have hl := lv_entry ([.ref a_t]) (n := 1) (Nat.le_of_ble_eq_true rfl)
  rw [lg_entry_eq]
  generalize (lg_sl ([.ref a_t]) ++ List.replicate (1 - (lg_sl ([.ref a_t])).length) Slot.unset).toArray = ls at hl ⊢
  have hl : lv_has ls 1 [(0, .ref a_t)] := hl
  suffices hsf : ∀ H : Heap, H = s.heap → W p l e _ s m _ below meth c H [] 0 0 _ _ from hsf _ rfl
  intro H hHe
  have hS : va_S A s.heap H [] := by rw [hHe]; exact hS
  have hP : va_P D vwCl [(a_t, .inr (4, [.int 0, .int 0, .null, .null, .null]))] H := by rw [hHe]; exact hP
  refine lv_aload_n hx hb dX4_init_0 rfl (lv_at hl 0 rfl) ?_
  refine W.objInit hx hb hown (hts _ wX4_init_ml3) (hts _ wX4_init_oi) (hts _ (List.mem_of_getElem? (i := 3) rfl)) rfl (by rw [hml]; exact hl.1) rfl dX4_init_1 (Nat.le_of_ble_eq_true rfl) (Nat.le_of_ble_eq_true rfl) ?_
  refine W.eq (g2 := F0 m 4 ls []) rfl ?_
  refine lv_aload_n hx hb dX4_init_4 rfl (lv_at hl 0 rfl) ?_
  refine lv_iconst (v := 0) hx hb dX4_init_5 (by decide) ?_
  refine va_put (D := D) (ci := 4) (v := .int 0) (ty := .int) (C := RX4) (T := TX4) (N := 5) hx hb hts iX4_init_X4 tyX4 tyX4_ok nmX4 hown hK.1 hP hD hS 0 rfl rfl 0 (by decide) (hts _ wX4_init_f9) (fun _ h9 => h9) rfl (tyX4_ok 0 (by decide)) rfl rfl (Nat.le_of_ble_eq_true rfl) dX4_init_6 (fun H locs hP hD hS => ?_)
  have hP : va_P D vwCl [(a_t, .inr (4, [.int 0, .int 0, .null, .null, .null]))] H := hP
  have hD : va_D A [(a_t, .inr (4, [.int 0, .int 0, .null, .null, .null]))] := hD
  refine lv_aload_n hx hb dX4_init_9 rfl (lv_at hl 0 rfl) ?_
  refine lv_bipush (v := (-4)) hx hb dX4_init_10 (by decide) ?_
  refine va_put (D := D) (ci := 4) (v := .int (-4)) (ty := .int) (C := RX4) (T := TX4) (N := 5) hx hb hts iX4_init_X4 tyX4 tyX4_ok nmX4 hown hK.1 hP hD hS 0 rfl rfl 1 (by decide) (hts _ wX4_init_f15) (fun _ h9 => h9) rfl (tyX4_ok 1 (by decide)) rfl rfl (Nat.le_of_ble_eq_true rfl) dX4_init_12 (fun H locs hP hD hS => ?_)
  have hP : va_P D vwCl [(a_t, .inr (4, [.int 0, .int (-4), .null, .null, .null]))] H := hP
  have hD : va_D A [(a_t, .inr (4, [.int 0, .int (-4), .null, .null, .null]))] := hD
  refine lv_aload_n hx hb dX4_init_15 rfl (lv_at hl 0 rfl) ?_
  refine lv_bipush (v := 9) hx hb dX4_init_16 (by decide) ?_
  refine lv_bipush (v := 41) hx hb dX4_init_18 (by decide) ?_
  refine va_mnat (tc := tc) (N' := 9) (K' := 41) hx hb hown (hts _ wX4_init_cl18) hK.2.2.2 (hts _ wX4_init_acI) hK.1 hP hD hS hA (by decide) (by decide) rfl rfl (by decide) (by decide) (by decide) (Nat.le_of_ble_eq_true rfl) (Nat.le_of_ble_eq_true rfl) dX4_init_20 (fun q20 r20 H hP hD hS => ?_)
  refine W.widen (k := 10) (n := 378) (by omega) (by omega) ?_
  have hP : va_P D vwCl [(a_t, .inr (4, [.int 0, .int (-4), .null, .null, .null])), (q20, .inl (tc 3, 9, .inr (.inr (.inr (.inr (rowf [(r20 0), (r20 1), (r20 2), (r20 3), (r20 4), (r20 5), (r20 6), (r20 7), (r20 8)])))))), ((r20 0), .inl (tc 0, 41, .inl ((fun _ _ => 0) 0))), ((r20 1), .inl (tc 0, 41, .inl ((fun _ _ => 0) 1))), ((r20 2), .inl (tc 0, 41, .inl ((fun _ _ => 0) 2))), ((r20 3), .inl (tc 0, 41, .inl ((fun _ _ => 0) 3))), ((r20 4), .inl (tc 0, 41, .inl ((fun _ _ => 0) 4))), ((r20 5), .inl (tc 0, 41, .inl ((fun _ _ => 0) 5))), ((r20 6), .inl (tc 0, 41, .inl ((fun _ _ => 0) 6))), ((r20 7), .inl (tc 0, 41, .inl ((fun _ _ => 0) 7))), ((r20 8), .inl (tc 0, 41, .inl ((fun _ _ => 0) 8)))] H := hP
  have hD : va_D A [(a_t, .inr (4, [.int 0, .int (-4), .null, .null, .null])), (q20, .inl (tc 3, 9, .inr (.inr (.inr (.inr (rowf [(r20 0), (r20 1), (r20 2), (r20 3), (r20 4), (r20 5), (r20 6), (r20 7), (r20 8)])))))), ((r20 0), .inl (tc 0, 41, .inl ((fun _ _ => 0) 0))), ((r20 1), .inl (tc 0, 41, .inl ((fun _ _ => 0) 1))), ((r20 2), .inl (tc 0, 41, .inl ((fun _ _ => 0) 2))), ((r20 3), .inl (tc 0, 41, .inl ((fun _ _ => 0) 3))), ((r20 4), .inl (tc 0, 41, .inl ((fun _ _ => 0) 4))), ((r20 5), .inl (tc 0, 41, .inl ((fun _ _ => 0) 5))), ((r20 6), .inl (tc 0, 41, .inl ((fun _ _ => 0) 6))), ((r20 7), .inl (tc 0, 41, .inl ((fun _ _ => 0) 7))), ((r20 8), .inl (tc 0, 41, .inl ((fun _ _ => 0) 8)))] := hD
  refine va_putF (D := D) (ci := 4) (v := .ref q20) (ty := .array (.array .int)) (C := RX4) (T := TX4) (N := 5) hx hb hts iX4_init_X4 tyX4 tyX4_ok nmX4 hown hK.1 hP hD hS 0 rfl rfl 2 (by decide) (hts _ wX4_init_f20) (fun _ h9 => h9) rfl hin rfl (tyX4_ok 2 (by decide)) rfl rfl (Nat.le_of_ble_eq_true rfl) dX4_init_24 (fun H locs hP hD hS => ?_)
  have hP : va_P D vwCl [(a_t, .inr (4, [.int 0, .int (-4), .ref q20, .null, .null])), (q20, .inl (tc 3, 9, .inr (.inr (.inr (.inr (rowf [(r20 0), (r20 1), (r20 2), (r20 3), (r20 4), (r20 5), (r20 6), (r20 7), (r20 8)])))))), ((r20 0), .inl (tc 0, 41, .inl ((fun _ _ => 0) 0))), ((r20 1), .inl (tc 0, 41, .inl ((fun _ _ => 0) 1))), ((r20 2), .inl (tc 0, 41, .inl ((fun _ _ => 0) 2))), ((r20 3), .inl (tc 0, 41, .inl ((fun _ _ => 0) 3))), ((r20 4), .inl (tc 0, 41, .inl ((fun _ _ => 0) 4))), ((r20 5), .inl (tc 0, 41, .inl ((fun _ _ => 0) 5))), ((r20 6), .inl (tc 0, 41, .inl ((fun _ _ => 0) 6))), ((r20 7), .inl (tc 0, 41, .inl ((fun _ _ => 0) 7))), ((r20 8), .inl (tc 0, 41, .inl ((fun _ _ => 0) 8)))] H := hP
  have hD : va_D A [(a_t, .inr (4, [.int 0, .int (-4), .ref q20, .null, .null])), (q20, .inl (tc 3, 9, .inr (.inr (.inr (.inr (rowf [(r20 0), (r20 1), (r20 2), (r20 3), (r20 4), (r20 5), (r20 6), (r20 7), (r20 8)])))))), ((r20 0), .inl (tc 0, 41, .inl ((fun _ _ => 0) 0))), ((r20 1), .inl (tc 0, 41, .inl ((fun _ _ => 0) 1))), ((r20 2), .inl (tc 0, 41, .inl ((fun _ _ => 0) 2))), ((r20 3), .inl (tc 0, 41, .inl ((fun _ _ => 0) 3))), ((r20 4), .inl (tc 0, 41, .inl ((fun _ _ => 0) 4))), ((r20 5), .inl (tc 0, 41, .inl ((fun _ _ => 0) 5))), ((r20 6), .inl (tc 0, 41, .inl ((fun _ _ => 0) 6))), ((r20 7), .inl (tc 0, 41, .inl ((fun _ _ => 0) 7))), ((r20 8), .inl (tc 0, 41, .inl ((fun _ _ => 0) 8)))] := hD
  refine lv_aload_n hx hb dX4_init_27 rfl (lv_at hl 0 rfl) ?_
  refine lv_bipush (v := 9) hx hb dX4_init_28 (by decide) ?_
  refine va_newat (tc := tc) (atype := .int) (ty := .int) (N' := 9) (a0 := (9, .inl (fun _ => 0))) hx hb (hts _ wX4_init_acI) rfl hK.1 hP hD hS hA (fun _ h => h) 0 rfl (fun _ => rfl) (by decide) rfl (by decide) (Nat.le_of_ble_eq_true rfl) (Nat.le_of_ble_eq_true rfl) dX4_init_30 (fun q30 H hP hD hS => ?_)
  refine W.widen (k := 11) (n := 387) (by omega) (by omega) ?_
  have hP : va_P D vwCl [(a_t, .inr (4, [.int 0, .int (-4), .ref q20, .null, .null])), (q20, .inl (tc 3, 9, .inr (.inr (.inr (.inr (rowf [(r20 0), (r20 1), (r20 2), (r20 3), (r20 4), (r20 5), (r20 6), (r20 7), (r20 8)])))))), ((r20 0), .inl (tc 0, 41, .inl ((fun _ _ => 0) 0))), ((r20 1), .inl (tc 0, 41, .inl ((fun _ _ => 0) 1))), ((r20 2), .inl (tc 0, 41, .inl ((fun _ _ => 0) 2))), ((r20 3), .inl (tc 0, 41, .inl ((fun _ _ => 0) 3))), ((r20 4), .inl (tc 0, 41, .inl ((fun _ _ => 0) 4))), ((r20 5), .inl (tc 0, 41, .inl ((fun _ _ => 0) 5))), ((r20 6), .inl (tc 0, 41, .inl ((fun _ _ => 0) 6))), ((r20 7), .inl (tc 0, 41, .inl ((fun _ _ => 0) 7))), ((r20 8), .inl (tc 0, 41, .inl ((fun _ _ => 0) 8))), (q30, .inl (tc 0, 9, .inl (fun _ => 0)))] H := hP
  have hD : va_D A [(a_t, .inr (4, [.int 0, .int (-4), .ref q20, .null, .null])), (q20, .inl (tc 3, 9, .inr (.inr (.inr (.inr (rowf [(r20 0), (r20 1), (r20 2), (r20 3), (r20 4), (r20 5), (r20 6), (r20 7), (r20 8)])))))), ((r20 0), .inl (tc 0, 41, .inl ((fun _ _ => 0) 0))), ((r20 1), .inl (tc 0, 41, .inl ((fun _ _ => 0) 1))), ((r20 2), .inl (tc 0, 41, .inl ((fun _ _ => 0) 2))), ((r20 3), .inl (tc 0, 41, .inl ((fun _ _ => 0) 3))), ((r20 4), .inl (tc 0, 41, .inl ((fun _ _ => 0) 4))), ((r20 5), .inl (tc 0, 41, .inl ((fun _ _ => 0) 5))), ((r20 6), .inl (tc 0, 41, .inl ((fun _ _ => 0) 6))), ((r20 7), .inl (tc 0, 41, .inl ((fun _ _ => 0) 7))), ((r20 8), .inl (tc 0, 41, .inl ((fun _ _ => 0) 8))), (q30, .inl (tc 0, 9, .inl (fun _ => 0)))] := hD
  refine va_putF (D := D) (ci := 4) (v := .ref q30) (ty := .array .int) (C := RX4) (T := TX4) (N := 5) hx hb hts iX4_init_X4 tyX4 tyX4_ok nmX4 hown hK.1 hP hD hS 0 rfl rfl 3 (by decide) (hts _ wX4_init_f23) (fun _ h9 => h9) rfl hin rfl (tyX4_ok 3 (by decide)) rfl rfl (Nat.le_of_ble_eq_true rfl) dX4_init_32 (fun H locs hP hD hS => ?_)
  have hP : va_P D vwCl [(a_t, .inr (4, [.int 0, .int (-4), .ref q20, .ref q30, .null])), (q20, .inl (tc 3, 9, .inr (.inr (.inr (.inr (rowf [(r20 0), (r20 1), (r20 2), (r20 3), (r20 4), (r20 5), (r20 6), (r20 7), (r20 8)])))))), ((r20 0), .inl (tc 0, 41, .inl ((fun _ _ => 0) 0))), ((r20 1), .inl (tc 0, 41, .inl ((fun _ _ => 0) 1))), ((r20 2), .inl (tc 0, 41, .inl ((fun _ _ => 0) 2))), ((r20 3), .inl (tc 0, 41, .inl ((fun _ _ => 0) 3))), ((r20 4), .inl (tc 0, 41, .inl ((fun _ _ => 0) 4))), ((r20 5), .inl (tc 0, 41, .inl ((fun _ _ => 0) 5))), ((r20 6), .inl (tc 0, 41, .inl ((fun _ _ => 0) 6))), ((r20 7), .inl (tc 0, 41, .inl ((fun _ _ => 0) 7))), ((r20 8), .inl (tc 0, 41, .inl ((fun _ _ => 0) 8))), (q30, .inl (tc 0, 9, .inl (fun _ => 0)))] H := hP
  have hD : va_D A [(a_t, .inr (4, [.int 0, .int (-4), .ref q20, .ref q30, .null])), (q20, .inl (tc 3, 9, .inr (.inr (.inr (.inr (rowf [(r20 0), (r20 1), (r20 2), (r20 3), (r20 4), (r20 5), (r20 6), (r20 7), (r20 8)])))))), ((r20 0), .inl (tc 0, 41, .inl ((fun _ _ => 0) 0))), ((r20 1), .inl (tc 0, 41, .inl ((fun _ _ => 0) 1))), ((r20 2), .inl (tc 0, 41, .inl ((fun _ _ => 0) 2))), ((r20 3), .inl (tc 0, 41, .inl ((fun _ _ => 0) 3))), ((r20 4), .inl (tc 0, 41, .inl ((fun _ _ => 0) 4))), ((r20 5), .inl (tc 0, 41, .inl ((fun _ _ => 0) 5))), ((r20 6), .inl (tc 0, 41, .inl ((fun _ _ => 0) 6))), ((r20 7), .inl (tc 0, 41, .inl ((fun _ _ => 0) 7))), ((r20 8), .inl (tc 0, 41, .inl ((fun _ _ => 0) 8))), (q30, .inl (tc 0, 9, .inl (fun _ => 0)))] := hD
  refine lv_aload_n hx hb dX4_init_35 rfl (lv_at hl 0 rfl) ?_
  refine lv_sipush (v := 512) hx hb dX4_init_36 (by decide) ?_
  refine va_newat (tc := tc) (atype := .int) (ty := .int) (N' := 512) (a0 := (512, .inl (fun _ => 0))) hx hb (hts _ wX4_init_acI) rfl hK.1 hP hD hS hA (fun _ h => h) 0 rfl (fun _ => rfl) (by decide) rfl (by decide) (Nat.le_of_ble_eq_true rfl) (Nat.le_of_ble_eq_true rfl) dX4_init_39 (fun q39 H hP hD hS => ?_)
  refine W.widen (k := 12) (n := 899) (by omega) (by omega) ?_
  have hP : va_P D vwCl [(a_t, .inr (4, [.int 0, .int (-4), .ref q20, .ref q30, .null])), (q20, .inl (tc 3, 9, .inr (.inr (.inr (.inr (rowf [(r20 0), (r20 1), (r20 2), (r20 3), (r20 4), (r20 5), (r20 6), (r20 7), (r20 8)])))))), ((r20 0), .inl (tc 0, 41, .inl ((fun _ _ => 0) 0))), ((r20 1), .inl (tc 0, 41, .inl ((fun _ _ => 0) 1))), ((r20 2), .inl (tc 0, 41, .inl ((fun _ _ => 0) 2))), ((r20 3), .inl (tc 0, 41, .inl ((fun _ _ => 0) 3))), ((r20 4), .inl (tc 0, 41, .inl ((fun _ _ => 0) 4))), ((r20 5), .inl (tc 0, 41, .inl ((fun _ _ => 0) 5))), ((r20 6), .inl (tc 0, 41, .inl ((fun _ _ => 0) 6))), ((r20 7), .inl (tc 0, 41, .inl ((fun _ _ => 0) 7))), ((r20 8), .inl (tc 0, 41, .inl ((fun _ _ => 0) 8))), (q30, .inl (tc 0, 9, .inl (fun _ => 0))), (q39, .inl (tc 0, 512, .inl (fun _ => 0)))] H := hP
  have hD : va_D A [(a_t, .inr (4, [.int 0, .int (-4), .ref q20, .ref q30, .null])), (q20, .inl (tc 3, 9, .inr (.inr (.inr (.inr (rowf [(r20 0), (r20 1), (r20 2), (r20 3), (r20 4), (r20 5), (r20 6), (r20 7), (r20 8)])))))), ((r20 0), .inl (tc 0, 41, .inl ((fun _ _ => 0) 0))), ((r20 1), .inl (tc 0, 41, .inl ((fun _ _ => 0) 1))), ((r20 2), .inl (tc 0, 41, .inl ((fun _ _ => 0) 2))), ((r20 3), .inl (tc 0, 41, .inl ((fun _ _ => 0) 3))), ((r20 4), .inl (tc 0, 41, .inl ((fun _ _ => 0) 4))), ((r20 5), .inl (tc 0, 41, .inl ((fun _ _ => 0) 5))), ((r20 6), .inl (tc 0, 41, .inl ((fun _ _ => 0) 6))), ((r20 7), .inl (tc 0, 41, .inl ((fun _ _ => 0) 7))), ((r20 8), .inl (tc 0, 41, .inl ((fun _ _ => 0) 8))), (q30, .inl (tc 0, 9, .inl (fun _ => 0))), (q39, .inl (tc 0, 512, .inl (fun _ => 0)))] := hD
  refine va_putF (D := D) (ci := 4) (v := .ref q39) (ty := .array .int) (C := RX4) (T := TX4) (N := 5) hx hb hts iX4_init_X4 tyX4 tyX4_ok nmX4 hown hK.1 hP hD hS 0 rfl rfl 4 (by decide) (hts _ wX4_init_f27) (fun _ h9 => h9) rfl hin rfl (tyX4_ok 4 (by decide)) rfl rfl (Nat.le_of_ble_eq_true rfl) dX4_init_41 (fun H locs hP hD hS => ?_)
  have hP : va_P D vwCl [(a_t, .inr (4, [.int 0, .int (-4), .ref q20, .ref q30, .ref q39])), (q20, .inl (tc 3, 9, .inr (.inr (.inr (.inr (rowf [(r20 0), (r20 1), (r20 2), (r20 3), (r20 4), (r20 5), (r20 6), (r20 7), (r20 8)])))))), ((r20 0), .inl (tc 0, 41, .inl ((fun _ _ => 0) 0))), ((r20 1), .inl (tc 0, 41, .inl ((fun _ _ => 0) 1))), ((r20 2), .inl (tc 0, 41, .inl ((fun _ _ => 0) 2))), ((r20 3), .inl (tc 0, 41, .inl ((fun _ _ => 0) 3))), ((r20 4), .inl (tc 0, 41, .inl ((fun _ _ => 0) 4))), ((r20 5), .inl (tc 0, 41, .inl ((fun _ _ => 0) 5))), ((r20 6), .inl (tc 0, 41, .inl ((fun _ _ => 0) 6))), ((r20 7), .inl (tc 0, 41, .inl ((fun _ _ => 0) 7))), ((r20 8), .inl (tc 0, 41, .inl ((fun _ _ => 0) 8))), (q30, .inl (tc 0, 9, .inl (fun _ => 0))), (q39, .inl (tc 0, 512, .inl (fun _ => 0)))] H := hP
  have hD : va_D A [(a_t, .inr (4, [.int 0, .int (-4), .ref q20, .ref q30, .ref q39])), (q20, .inl (tc 3, 9, .inr (.inr (.inr (.inr (rowf [(r20 0), (r20 1), (r20 2), (r20 3), (r20 4), (r20 5), (r20 6), (r20 7), (r20 8)])))))), ((r20 0), .inl (tc 0, 41, .inl ((fun _ _ => 0) 0))), ((r20 1), .inl (tc 0, 41, .inl ((fun _ _ => 0) 1))), ((r20 2), .inl (tc 0, 41, .inl ((fun _ _ => 0) 2))), ((r20 3), .inl (tc 0, 41, .inl ((fun _ _ => 0) 3))), ((r20 4), .inl (tc 0, 41, .inl ((fun _ _ => 0) 4))), ((r20 5), .inl (tc 0, 41, .inl ((fun _ _ => 0) 5))), ((r20 6), .inl (tc 0, 41, .inl ((fun _ _ => 0) 6))), ((r20 7), .inl (tc 0, 41, .inl ((fun _ _ => 0) 7))), ((r20 8), .inl (tc 0, 41, .inl ((fun _ _ => 0) 8))), (q30, .inl (tc 0, 9, .inl (fun _ => 0))), (q39, .inl (tc 0, 512, .inl (fun _ => 0)))] := hD
  have hP9 := hP.sub (ws' := [(a_t, .inr (4, [.int 0, .int (-4), .ref q20, .ref q30, .ref q39])), (q20, .inl (tc 3, 9, .inr (.inr (.inr (.inr (rowf [(r20 0), (r20 1), (r20 2), (r20 3), (r20 4), (r20 5), (r20 6), (r20 7), (r20 8)])))))), ((r20 0), .inl (tc 0, 41, .inl ((fun _ _ => 0) 0))), ((r20 1), .inl (tc 0, 41, .inl ((fun _ _ => 0) 1))), ((r20 2), .inl (tc 0, 41, .inl ((fun _ _ => 0) 2))), ((r20 3), .inl (tc 0, 41, .inl ((fun _ _ => 0) 3))), ((r20 4), .inl (tc 0, 41, .inl ((fun _ _ => 0) 4))), ((r20 5), .inl (tc 0, 41, .inl ((fun _ _ => 0) 5))), ((r20 6), .inl (tc 0, 41, .inl ((fun _ _ => 0) 6))), ((r20 7), .inl (tc 0, 41, .inl ((fun _ _ => 0) 7))), ((r20 8), .inl (tc 0, 41, .inl ((fun _ _ => 0) 8))), (q30, .inl (tc 0, 9, .inl (fun _ => 0))), (q39, .inl (tc 0, 512, .inl (fun _ => 0)))]) [0, 1, 2, 3, 4, 5, 6, 7, 8, 9, 10, 11, 12] rfl
  have hD9 := hD.sub (ws' := [(a_t, .inr (4, [.int 0, .int (-4), .ref q20, .ref q30, .ref q39])), (q20, .inl (tc 3, 9, .inr (.inr (.inr (.inr (rowf [(r20 0), (r20 1), (r20 2), (r20 3), (r20 4), (r20 5), (r20 6), (r20 7), (r20 8)])))))), ((r20 0), .inl (tc 0, 41, .inl ((fun _ _ => 0) 0))), ((r20 1), .inl (tc 0, 41, .inl ((fun _ _ => 0) 1))), ((r20 2), .inl (tc 0, 41, .inl ((fun _ _ => 0) 2))), ((r20 3), .inl (tc 0, 41, .inl ((fun _ _ => 0) 3))), ((r20 4), .inl (tc 0, 41, .inl ((fun _ _ => 0) 4))), ((r20 5), .inl (tc 0, 41, .inl ((fun _ _ => 0) 5))), ((r20 6), .inl (tc 0, 41, .inl ((fun _ _ => 0) 6))), ((r20 7), .inl (tc 0, 41, .inl ((fun _ _ => 0) 7))), ((r20 8), .inl (tc 0, 41, .inl ((fun _ _ => 0) 8))), (q30, .inl (tc 0, 9, .inl (fun _ => 0))), (q39, .inl (tc 0, 512, .inl (fun _ => 0)))]) [0, 1, 2, 3, 4, 5, 6, 7, 8, 9, 10, 11, 12] (by decide) rfl
  exact W.vret hx hb hr (fun t ht hW => ⟨⟨adr [q20, (r20 0), (r20 1), (r20 2), (r20 3), (r20 4), (r20 5), (r20 6), (r20 7), (r20 8), q30, q39], rfl, trivial, by rw [ht]; exact hP9, hD9⟩, hS.F ht⟩) hS.2.2 dX4_init_44
theorem iX5_init_X2 : ∀ w ∈ wsX20, w ∈ wsX5_init := by decide +kernel
theorem iX5_init_X5 : ∀ w ∈ wsX50, w ∈ wsX5_init := by decide +kernel
theorem wX5_init_cl13 : Cond.classLink RX5 13 RX2 ∈ wsX5_init := by decide +kernel
theorem wX5_init_f16 : Cond.fieldLink RX5 16 "SkinInRafters$Shelf" "rows" "[LSkinInRafters$Hiding;" ∈ wsX5_init := by decide +kernel
theorem wX5_init_f7 : Cond.fieldLink RX5 7 "SkinInRafters$Shelf" "held" "I" ∈ wsX5_init := by decide +kernel
theorem wX5_init_imX2_init : Cond.instanceMethod yX2_init ∈ wsX5_init := by decide +kernel
theorem wX5_init_inX2 : Cond.instantiable RX2 5 ∈ wsX5_init := by decide +kernel
theorem wX5_init_iniX2 : Cond.initialized RX2 ∈ wsX5_init := by decide +kernel
theorem wX5_init_ml1 : Cond.methodLink RX5 1 objectInit ∈ wsX5_init := by decide +kernel
theorem wX5_init_oi : Cond.instanceMethod objectInit ∈ wsX5_init := by decide +kernel
set_option maxHeartbeats 4000000 in
set_option maxRecDepth 100000 in
theorem mX5_init {l : Launch} {D : va_G} {tc : Nat → ClassId} {sz : Nat} {a_t : Nat} : Met l yX5_init wsX5_init ({ frames := 2, cells := 11, slots := 76, locals := 32 } : Room) (va_Pc [.ref a_t] (wpre D tc [(a_t, .inr (5, [.int 0, .null]))] sz)) (va_Qv (S := Nat → Nat) (fun _ => True) (fun u => wpost D (va_A [(a_t, .inr (5, [.int 0, .null]))] sz) [(a_t, .inr (5, [.int 0, .ref (u 0)])), ((u 0), .inl (tc 4, 2, .inr (.inr (.inr (.inr (rowf [(u 1), (u 6)])))))), ((u 1), .inr (2, [.ref (u 2), .int 0, .ref (u 3), .ref (u 4), .ref (u 5)])), ((u 2), .inl (tc 0, 5, .inl (fun _ => 0))), ((u 3), .inl (tc 0, 9, .inl (fun _ => 0))), ((u 4), .inl (tc 0, 9, .inl (fun _ => 0))), ((u 5), .inl (tc 0, 9, .inl (fun _ => 0))), ((u 6), .inr (2, [.ref (u 7), .int 0, .ref (u 8), .ref (u 9), .ref (u 10)])), ((u 7), .inl (tc 0, 5, .inl (fun _ => 0))), ((u 8), .inl (tc 0, 9, .inl (fun _ => 0))), ((u 9), .inl (tc 0, 9, .inl (fun _ => 0))), ((u 10), .inl (tc 0, 9, .inl (fun _ => 0)))]) (va_A [(a_t, .inr (5, [.int 0, .null]))] sz)) 11 76 (va_A [(a_t, .inr (5, [.int 0, .null]))] sz) := by
  refine Met.ofW (cc := cX5_init) (maxL := 1) (ret := none) (by decide) rfl ?_
  intro p e s m args below meth c s₁ B hml hv
  obtain ⟨rfl, hsz, hP, hK, hD0⟩ := hv
  have hx := B.exec
  have hb := B.bytes
  have hr := B.returns
  have hts := atoms_spec (ws := wsX5_init) B.pre
  have hown : s.vm.findClass RX5 = some m.cls := findClass_of_methodNamed B.named
  have hlocks := B.notSynchronized
  have hin : meth.name = "<init>" := (name_of_methodNamed B.named B.method).1
  subst hsz
  have hD := hD0.self (sz := s.heap.size)
  generalize hAe : va_A [(a_t, .inr (5, [.int 0, .null]))] s.heap.size = A at hD ⊢
  have hA : ∀ q : Nat, s.heap.size ≤ q → A q := fun q h => by rw [← hAe]; exact Or.inr h
  have hS : va_S A s.heap s.heap [] := va_S.rf
  have hP : va_P D vwCl [(a_t, .inr (5, [.int 0, .null]))] s.heap := hP
  have hl := lv_entry ([.ref a_t]) (n := 1) (Nat.le_of_ble_eq_true rfl)
  rw [lg_entry_eq]
  generalize (lg_sl ([.ref a_t]) ++ List.replicate (1 - (lg_sl ([.ref a_t])).length) Slot.unset).toArray = ls at hl ⊢
  have hl : lv_has ls 1 [(0, .ref a_t)] := hl
  suffices hsf : ∀ H : Heap, H = s.heap → W p l e _ s m _ below meth c H [] 0 0 _ _ from hsf _ rfl
  intro H hHe
  have hS : va_S A s.heap H [] := by rw [hHe]; exact hS
  have hP : va_P D vwCl [(a_t, .inr (5, [.int 0, .null]))] H := by rw [hHe]; exact hP
  refine lv_aload_n hx hb dX5_init_0 rfl (lv_at hl 0 rfl) ?_
  refine W.objInit hx hb hown (hts _ wX5_init_ml1) (hts _ wX5_init_oi) (hts _ (List.mem_of_getElem? (i := 3) rfl)) rfl (by rw [hml]; exact hl.1) rfl dX5_init_1 (Nat.le_of_ble_eq_true rfl) (Nat.le_of_ble_eq_true rfl) ?_
  refine W.eq (g2 := F0 m 4 ls []) rfl ?_
  refine lv_aload_n hx hb dX5_init_4 rfl (lv_at hl 0 rfl) ?_
  refine lv_iconst (v := 0) hx hb dX5_init_5 (by decide) ?_
  refine va_put (D := D) (ci := 5) (v := .int 0) (ty := .int) (C := RX5) (T := TX5) (N := 2) hx hb hts iX5_init_X5 tyX5 tyX5_ok nmX5 hown hK.1 hP hD hS 0 rfl rfl 0 (by decide) (hts _ wX5_init_f7) (fun _ h9 => h9) rfl (tyX5_ok 0 (by decide)) rfl rfl (Nat.le_of_ble_eq_true rfl) dX5_init_6 (fun H locs hP hD hS => ?_)
  have hP : va_P D vwCl [(a_t, .inr (5, [.int 0, .null]))] H := hP
  have hD : va_D A [(a_t, .inr (5, [.int 0, .null]))] := hD
  refine lv_aload_n hx hb dX5_init_9 rfl (lv_at hl 0 rfl) ?_
  refine lv_iconst (v := 2) hx hb dX5_init_10 (by decide) ?_
  refine va_newqt (tc := tc) (N' := 2) hx hb hown (hts _ wX5_init_cl13) hK.2.2.1 hK.1 hP hD hS hA (by decide) rfl (by decide) (Nat.le_of_ble_eq_true rfl) (Nat.le_of_ble_eq_true rfl) dX5_init_11 (fun q11 H hP hD hS => ?_)
  refine W.widen (k := 1) (n := 2) (by omega) (by omega) ?_
  have hP : va_P D vwCl [(a_t, .inr (5, [.int 0, .null])), (q11, .inl (tc 4, 2, .inr (.inr (.inr (.inr (fun _ => none))))))] H := hP
  have hD : va_D A [(a_t, .inr (5, [.int 0, .null])), (q11, .inl (tc 4, 2, .inr (.inr (.inr (.inr (fun _ => none))))))] := hD
  refine lv_dup hx hb dX5_init_14 rfl ?_
  refine lv_iconst (v := 0) hx hb dX5_init_15 (by decide) ?_
  refine va_new (ci := 2) (fs := [.null, .int 0, .null, .null, .null]) (C := RX2) (T := TX2) (N := 5) hx hb hts iX5_init_X2 tyX2 tyX2_ok hown (hts _ wX5_init_cl13) (hts _ wX5_init_inX2) (hts _ wX5_init_iniX2) hK.1 hP hD hS hA rfl (fun j hj => by rcases (show j = 0 ∨ j = 1 ∨ j = 2 ∨ j = 3 ∨ j = 4 by omega) with rfl | rfl | rfl | rfl | rfl <;> rfl) (Nat.le_of_ble_eq_true rfl) (Nat.le_of_ble_eq_true rfl) dX5_init_16 (fun q16 H hP hD hS => ?_)
  refine W.widen (k := 2) (n := 7) (by omega) (by omega) ?_
  have hP : va_P D vwCl [(a_t, .inr (5, [.int 0, .null])), (q11, .inl (tc 4, 2, .inr (.inr (.inr (.inr (fun _ => none)))))), (q16, .inr (2, [.null, .int 0, .null, .null, .null]))] H := hP
  have hD : va_D A [(a_t, .inr (5, [.int 0, .null])), (q11, .inl (tc 4, 2, .inr (.inr (.inr (.inr (fun _ => none)))))), (q16, .inr (2, [.null, .int 0, .null, .null, .null]))] := hD
  refine lv_dup hx hb dX5_init_19 rfl ?_
  refine cl_v (wc := [(q16, .inr (2, [.null, .int 0, .null, .null, .null]))]) (wr := [(a_t, .inr (5, [.int 0, .null])), (q11, .inl (tc 4, 2, .inr (.inr (.inr (.inr (fun _ => none))))))]) hP hD hS hA [2] [0, 1] rfl rfl (by decide) (by decide) (va_runIN (As := []) (rest := [.ref q16, .int 0, .ref q11, .ref q11, .ref a_t]) ⟨hx, hb, hml, hown, hts⟩ (mX2_init (l := l) (D := D) (tc := tc) (sz := H.size) (a_t := q16)) ⟨va_cnB 0 hts ggX5_init_X2_init rfl rfl rfl (hK.2.1 _ (List.mem_of_getElem? (i := 7) rfl)) (hts _ wX5_init_iniX2) (by decide +kernel) ⟨(Nat.le_of_ble_eq_true rfl), (Nat.le_of_ble_eq_true rfl)⟩, rfl, hts _ wX5_init_imX2_init⟩ (pre_S hK hP hD [2] rfl (by decide)) rfl rfl hl.1 rfl (lv_room (Nat.le_of_ble_eq_true rfl)) dX5_init_20 ⟨(Nat.le_of_ble_eq_true rfl), (Nat.le_of_ble_eq_true rfl)⟩) (fun u20 H locs _ hP hD hS => ?_)
  refine W.widen (k := 6) (n := 39) (by omega) (by omega) ?_
  have hP : va_P D vwCl [(a_t, .inr (5, [.int 0, .null])), (q11, .inl (tc 4, 2, .inr (.inr (.inr (.inr (fun _ => none)))))), (q16, .inr (2, [.ref (u20 0), .int 0, .ref (u20 1), .ref (u20 2), .ref (u20 3)])), ((u20 0), .inl (tc 0, 5, .inl (fun _ => 0))), ((u20 1), .inl (tc 0, 9, .inl (fun _ => 0))), ((u20 2), .inl (tc 0, 9, .inl (fun _ => 0))), ((u20 3), .inl (tc 0, 9, .inl (fun _ => 0)))] H := hP
  have hD : va_D A [(a_t, .inr (5, [.int 0, .null])), (q11, .inl (tc 4, 2, .inr (.inr (.inr (.inr (fun _ => none)))))), (q16, .inr (2, [.ref (u20 0), .int 0, .ref (u20 1), .ref (u20 2), .ref (u20 3)])), ((u20 0), .inl (tc 0, 5, .inl (fun _ => 0))), ((u20 1), .inl (tc 0, 9, .inl (fun _ => 0))), ((u20 2), .inl (tc 0, 9, .inl (fun _ => 0))), ((u20 3), .inl (tc 0, 9, .inl (fun _ => 0)))] := hD
  refine va_astq (r := vwCl[2]) hx hb hK.1 hP hD hS 1 4 2 2 rfl rfl rfl rfl (vp_in_nI (n := 0) (by omega) (by omega)) dX5_init_23 (fun H locs hP hD hS => ?_)
  have hP : va_P D vwCl [(a_t, .inr (5, [.int 0, .null])), (q11, .inl (tc 4, 2, .inr (.inr (.inr (.inr (va_up (fun _ => none) (0 : Int32).toNatClampNeg (some q16))))))), (q16, .inr (2, [.ref (u20 0), .int 0, .ref (u20 1), .ref (u20 2), .ref (u20 3)])), ((u20 0), .inl (tc 0, 5, .inl (fun _ => 0))), ((u20 1), .inl (tc 0, 9, .inl (fun _ => 0))), ((u20 2), .inl (tc 0, 9, .inl (fun _ => 0))), ((u20 3), .inl (tc 0, 9, .inl (fun _ => 0)))] H := hP
  have hD : va_D A [(a_t, .inr (5, [.int 0, .null])), (q11, .inl (tc 4, 2, .inr (.inr (.inr (.inr (va_up (fun _ => none) (0 : Int32).toNatClampNeg (some q16))))))), (q16, .inr (2, [.ref (u20 0), .int 0, .ref (u20 1), .ref (u20 2), .ref (u20 3)])), ((u20 0), .inl (tc 0, 5, .inl (fun _ => 0))), ((u20 1), .inl (tc 0, 9, .inl (fun _ => 0))), ((u20 2), .inl (tc 0, 9, .inl (fun _ => 0))), ((u20 3), .inl (tc 0, 9, .inl (fun _ => 0)))] := hD
  refine lv_dup hx hb dX5_init_24 rfl ?_
  refine lv_iconst (v := 1) hx hb dX5_init_25 (by decide) ?_
  refine va_new (ci := 2) (fs := [.null, .int 0, .null, .null, .null]) (C := RX2) (T := TX2) (N := 5) hx hb hts iX5_init_X2 tyX2 tyX2_ok hown (hts _ wX5_init_cl13) (hts _ wX5_init_inX2) (hts _ wX5_init_iniX2) hK.1 hP hD hS hA rfl (fun j hj => by rcases (show j = 0 ∨ j = 1 ∨ j = 2 ∨ j = 3 ∨ j = 4 by omega) with rfl | rfl | rfl | rfl | rfl <;> rfl) (Nat.le_of_ble_eq_true rfl) (Nat.le_of_ble_eq_true rfl) dX5_init_26 (fun q26 H hP hD hS => ?_)
  refine W.widen (k := 7) (n := 44) (by omega) (by omega) ?_
  have hP : va_P D vwCl [(a_t, .inr (5, [.int 0, .null])), (q11, .inl (tc 4, 2, .inr (.inr (.inr (.inr (va_up (fun _ => none) (0 : Int32).toNatClampNeg (some q16))))))), (q16, .inr (2, [.ref (u20 0), .int 0, .ref (u20 1), .ref (u20 2), .ref (u20 3)])), ((u20 0), .inl (tc 0, 5, .inl (fun _ => 0))), ((u20 1), .inl (tc 0, 9, .inl (fun _ => 0))), ((u20 2), .inl (tc 0, 9, .inl (fun _ => 0))), ((u20 3), .inl (tc 0, 9, .inl (fun _ => 0))), (q26, .inr (2, [.null, .int 0, .null, .null, .null]))] H := hP
  have hD : va_D A [(a_t, .inr (5, [.int 0, .null])), (q11, .inl (tc 4, 2, .inr (.inr (.inr (.inr (va_up (fun _ => none) (0 : Int32).toNatClampNeg (some q16))))))), (q16, .inr (2, [.ref (u20 0), .int 0, .ref (u20 1), .ref (u20 2), .ref (u20 3)])), ((u20 0), .inl (tc 0, 5, .inl (fun _ => 0))), ((u20 1), .inl (tc 0, 9, .inl (fun _ => 0))), ((u20 2), .inl (tc 0, 9, .inl (fun _ => 0))), ((u20 3), .inl (tc 0, 9, .inl (fun _ => 0))), (q26, .inr (2, [.null, .int 0, .null, .null, .null]))] := hD
  refine lv_dup hx hb dX5_init_29 rfl ?_
  refine cl_v (wc := [(q26, .inr (2, [.null, .int 0, .null, .null, .null]))]) (wr := [(a_t, .inr (5, [.int 0, .null])), (q11, .inl (tc 4, 2, .inr (.inr (.inr (.inr (va_up (fun _ => none) (0 : Int32).toNatClampNeg (some q16))))))), (q16, .inr (2, [.ref (u20 0), .int 0, .ref (u20 1), .ref (u20 2), .ref (u20 3)])), ((u20 0), .inl (tc 0, 5, .inl (fun _ => 0))), ((u20 1), .inl (tc 0, 9, .inl (fun _ => 0))), ((u20 2), .inl (tc 0, 9, .inl (fun _ => 0))), ((u20 3), .inl (tc 0, 9, .inl (fun _ => 0)))]) hP hD hS hA [7] [0, 1, 2, 3, 4, 5, 6] rfl rfl (by decide) (by decide) (va_runIN (As := []) (rest := [.ref q26, .int 1, .ref q11, .ref q11, .ref a_t]) ⟨hx, hb, hml, hown, hts⟩ (mX2_init (l := l) (D := D) (tc := tc) (sz := H.size) (a_t := q26)) ⟨va_cnB 0 hts ggX5_init_X2_init rfl rfl rfl (hK.2.1 _ (List.mem_of_getElem? (i := 7) rfl)) (hts _ wX5_init_iniX2) (by decide +kernel) ⟨(Nat.le_of_ble_eq_true rfl), (Nat.le_of_ble_eq_true rfl)⟩, rfl, hts _ wX5_init_imX2_init⟩ (pre_S hK hP hD [7] rfl (by decide)) rfl rfl hl.1 rfl (lv_room (Nat.le_of_ble_eq_true rfl)) dX5_init_30 ⟨(Nat.le_of_ble_eq_true rfl), (Nat.le_of_ble_eq_true rfl)⟩) (fun u30 H locs _ hP hD hS => ?_)
  refine W.widen (k := 11) (n := 76) (by omega) (by omega) ?_
  have hP : va_P D vwCl [(a_t, .inr (5, [.int 0, .null])), (q11, .inl (tc 4, 2, .inr (.inr (.inr (.inr (va_up (fun _ => none) (0 : Int32).toNatClampNeg (some q16))))))), (q16, .inr (2, [.ref (u20 0), .int 0, .ref (u20 1), .ref (u20 2), .ref (u20 3)])), ((u20 0), .inl (tc 0, 5, .inl (fun _ => 0))), ((u20 1), .inl (tc 0, 9, .inl (fun _ => 0))), ((u20 2), .inl (tc 0, 9, .inl (fun _ => 0))), ((u20 3), .inl (tc 0, 9, .inl (fun _ => 0))), (q26, .inr (2, [.ref (u30 0), .int 0, .ref (u30 1), .ref (u30 2), .ref (u30 3)])), ((u30 0), .inl (tc 0, 5, .inl (fun _ => 0))), ((u30 1), .inl (tc 0, 9, .inl (fun _ => 0))), ((u30 2), .inl (tc 0, 9, .inl (fun _ => 0))), ((u30 3), .inl (tc 0, 9, .inl (fun _ => 0)))] H := hP
  have hD : va_D A [(a_t, .inr (5, [.int 0, .null])), (q11, .inl (tc 4, 2, .inr (.inr (.inr (.inr (va_up (fun _ => none) (0 : Int32).toNatClampNeg (some q16))))))), (q16, .inr (2, [.ref (u20 0), .int 0, .ref (u20 1), .ref (u20 2), .ref (u20 3)])), ((u20 0), .inl (tc 0, 5, .inl (fun _ => 0))), ((u20 1), .inl (tc 0, 9, .inl (fun _ => 0))), ((u20 2), .inl (tc 0, 9, .inl (fun _ => 0))), ((u20 3), .inl (tc 0, 9, .inl (fun _ => 0))), (q26, .inr (2, [.ref (u30 0), .int 0, .ref (u30 1), .ref (u30 2), .ref (u30 3)])), ((u30 0), .inl (tc 0, 5, .inl (fun _ => 0))), ((u30 1), .inl (tc 0, 9, .inl (fun _ => 0))), ((u30 2), .inl (tc 0, 9, .inl (fun _ => 0))), ((u30 3), .inl (tc 0, 9, .inl (fun _ => 0)))] := hD
  refine va_astq (r := vwCl[2]) hx hb hK.1 hP hD hS 1 4 7 2 rfl rfl rfl rfl (vp_in_nI (n := 1) (by omega) (by omega)) dX5_init_33 (fun H locs hP hD hS => ?_)
  have hP : va_P D vwCl [(a_t, .inr (5, [.int 0, .null])), (q11, .inl (tc 4, 2, .inr (.inr (.inr (.inr (va_up (va_up (fun _ => none) (0 : Int32).toNatClampNeg (some q16)) (1 : Int32).toNatClampNeg (some q26))))))), (q16, .inr (2, [.ref (u20 0), .int 0, .ref (u20 1), .ref (u20 2), .ref (u20 3)])), ((u20 0), .inl (tc 0, 5, .inl (fun _ => 0))), ((u20 1), .inl (tc 0, 9, .inl (fun _ => 0))), ((u20 2), .inl (tc 0, 9, .inl (fun _ => 0))), ((u20 3), .inl (tc 0, 9, .inl (fun _ => 0))), (q26, .inr (2, [.ref (u30 0), .int 0, .ref (u30 1), .ref (u30 2), .ref (u30 3)])), ((u30 0), .inl (tc 0, 5, .inl (fun _ => 0))), ((u30 1), .inl (tc 0, 9, .inl (fun _ => 0))), ((u30 2), .inl (tc 0, 9, .inl (fun _ => 0))), ((u30 3), .inl (tc 0, 9, .inl (fun _ => 0)))] H := hP
  have hD : va_D A [(a_t, .inr (5, [.int 0, .null])), (q11, .inl (tc 4, 2, .inr (.inr (.inr (.inr (va_up (va_up (fun _ => none) (0 : Int32).toNatClampNeg (some q16)) (1 : Int32).toNatClampNeg (some q26))))))), (q16, .inr (2, [.ref (u20 0), .int 0, .ref (u20 1), .ref (u20 2), .ref (u20 3)])), ((u20 0), .inl (tc 0, 5, .inl (fun _ => 0))), ((u20 1), .inl (tc 0, 9, .inl (fun _ => 0))), ((u20 2), .inl (tc 0, 9, .inl (fun _ => 0))), ((u20 3), .inl (tc 0, 9, .inl (fun _ => 0))), (q26, .inr (2, [.ref (u30 0), .int 0, .ref (u30 1), .ref (u30 2), .ref (u30 3)])), ((u30 0), .inl (tc 0, 5, .inl (fun _ => 0))), ((u30 1), .inl (tc 0, 9, .inl (fun _ => 0))), ((u30 2), .inl (tc 0, 9, .inl (fun _ => 0))), ((u30 3), .inl (tc 0, 9, .inl (fun _ => 0)))] := hD
  rw [va_up2] at hP hD
  have hP : va_P D vwCl [(a_t, .inr (5, [.int 0, .null])), (q11, .inl (tc 4, 2, .inr (.inr (.inr (.inr (rowf [q16, q26])))))), (q16, .inr (2, [.ref (u20 0), .int 0, .ref (u20 1), .ref (u20 2), .ref (u20 3)])), ((u20 0), .inl (tc 0, 5, .inl (fun _ => 0))), ((u20 1), .inl (tc 0, 9, .inl (fun _ => 0))), ((u20 2), .inl (tc 0, 9, .inl (fun _ => 0))), ((u20 3), .inl (tc 0, 9, .inl (fun _ => 0))), (q26, .inr (2, [.ref (u30 0), .int 0, .ref (u30 1), .ref (u30 2), .ref (u30 3)])), ((u30 0), .inl (tc 0, 5, .inl (fun _ => 0))), ((u30 1), .inl (tc 0, 9, .inl (fun _ => 0))), ((u30 2), .inl (tc 0, 9, .inl (fun _ => 0))), ((u30 3), .inl (tc 0, 9, .inl (fun _ => 0)))] H := hP
  have hD : va_D A [(a_t, .inr (5, [.int 0, .null])), (q11, .inl (tc 4, 2, .inr (.inr (.inr (.inr (rowf [q16, q26])))))), (q16, .inr (2, [.ref (u20 0), .int 0, .ref (u20 1), .ref (u20 2), .ref (u20 3)])), ((u20 0), .inl (tc 0, 5, .inl (fun _ => 0))), ((u20 1), .inl (tc 0, 9, .inl (fun _ => 0))), ((u20 2), .inl (tc 0, 9, .inl (fun _ => 0))), ((u20 3), .inl (tc 0, 9, .inl (fun _ => 0))), (q26, .inr (2, [.ref (u30 0), .int 0, .ref (u30 1), .ref (u30 2), .ref (u30 3)])), ((u30 0), .inl (tc 0, 5, .inl (fun _ => 0))), ((u30 1), .inl (tc 0, 9, .inl (fun _ => 0))), ((u30 2), .inl (tc 0, 9, .inl (fun _ => 0))), ((u30 3), .inl (tc 0, 9, .inl (fun _ => 0)))] := hD
  refine va_putF (D := D) (ci := 5) (v := .ref q11) (ty := .array (.object "SkinInRafters$Hiding")) (C := RX5) (T := TX5) (N := 2) hx hb hts iX5_init_X5 tyX5 tyX5_ok nmX5 hown hK.1 hP hD hS 0 rfl rfl 1 (by decide) (hts _ wX5_init_f16) (fun _ h9 => h9) rfl hin rfl (tyX5_ok 1 (by decide)) rfl rfl (Nat.le_of_ble_eq_true rfl) dX5_init_34 (fun H locs hP hD hS => ?_)
  have hP : va_P D vwCl [(a_t, .inr (5, [.int 0, .ref q11])), (q11, .inl (tc 4, 2, .inr (.inr (.inr (.inr (rowf [q16, q26])))))), (q16, .inr (2, [.ref (u20 0), .int 0, .ref (u20 1), .ref (u20 2), .ref (u20 3)])), ((u20 0), .inl (tc 0, 5, .inl (fun _ => 0))), ((u20 1), .inl (tc 0, 9, .inl (fun _ => 0))), ((u20 2), .inl (tc 0, 9, .inl (fun _ => 0))), ((u20 3), .inl (tc 0, 9, .inl (fun _ => 0))), (q26, .inr (2, [.ref (u30 0), .int 0, .ref (u30 1), .ref (u30 2), .ref (u30 3)])), ((u30 0), .inl (tc 0, 5, .inl (fun _ => 0))), ((u30 1), .inl (tc 0, 9, .inl (fun _ => 0))), ((u30 2), .inl (tc 0, 9, .inl (fun _ => 0))), ((u30 3), .inl (tc 0, 9, .inl (fun _ => 0)))] H := hP
  have hD : va_D A [(a_t, .inr (5, [.int 0, .ref q11])), (q11, .inl (tc 4, 2, .inr (.inr (.inr (.inr (rowf [q16, q26])))))), (q16, .inr (2, [.ref (u20 0), .int 0, .ref (u20 1), .ref (u20 2), .ref (u20 3)])), ((u20 0), .inl (tc 0, 5, .inl (fun _ => 0))), ((u20 1), .inl (tc 0, 9, .inl (fun _ => 0))), ((u20 2), .inl (tc 0, 9, .inl (fun _ => 0))), ((u20 3), .inl (tc 0, 9, .inl (fun _ => 0))), (q26, .inr (2, [.ref (u30 0), .int 0, .ref (u30 1), .ref (u30 2), .ref (u30 3)])), ((u30 0), .inl (tc 0, 5, .inl (fun _ => 0))), ((u30 1), .inl (tc 0, 9, .inl (fun _ => 0))), ((u30 2), .inl (tc 0, 9, .inl (fun _ => 0))), ((u30 3), .inl (tc 0, 9, .inl (fun _ => 0)))] := hD
  have hP9 := hP.sub (ws' := [(a_t, .inr (5, [.int 0, .ref q11])), (q11, .inl (tc 4, 2, .inr (.inr (.inr (.inr (rowf [q16, q26])))))), (q16, .inr (2, [.ref (u20 0), .int 0, .ref (u20 1), .ref (u20 2), .ref (u20 3)])), ((u20 0), .inl (tc 0, 5, .inl (fun _ => 0))), ((u20 1), .inl (tc 0, 9, .inl (fun _ => 0))), ((u20 2), .inl (tc 0, 9, .inl (fun _ => 0))), ((u20 3), .inl (tc 0, 9, .inl (fun _ => 0))), (q26, .inr (2, [.ref (u30 0), .int 0, .ref (u30 1), .ref (u30 2), .ref (u30 3)])), ((u30 0), .inl (tc 0, 5, .inl (fun _ => 0))), ((u30 1), .inl (tc 0, 9, .inl (fun _ => 0))), ((u30 2), .inl (tc 0, 9, .inl (fun _ => 0))), ((u30 3), .inl (tc 0, 9, .inl (fun _ => 0)))]) [0, 1, 2, 3, 4, 5, 6, 7, 8, 9, 10, 11] rfl
  have hD9 := hD.sub (ws' := [(a_t, .inr (5, [.int 0, .ref q11])), (q11, .inl (tc 4, 2, .inr (.inr (.inr (.inr (rowf [q16, q26])))))), (q16, .inr (2, [.ref (u20 0), .int 0, .ref (u20 1), .ref (u20 2), .ref (u20 3)])), ((u20 0), .inl (tc 0, 5, .inl (fun _ => 0))), ((u20 1), .inl (tc 0, 9, .inl (fun _ => 0))), ((u20 2), .inl (tc 0, 9, .inl (fun _ => 0))), ((u20 3), .inl (tc 0, 9, .inl (fun _ => 0))), (q26, .inr (2, [.ref (u30 0), .int 0, .ref (u30 1), .ref (u30 2), .ref (u30 3)])), ((u30 0), .inl (tc 0, 5, .inl (fun _ => 0))), ((u30 1), .inl (tc 0, 9, .inl (fun _ => 0))), ((u30 2), .inl (tc 0, 9, .inl (fun _ => 0))), ((u30 3), .inl (tc 0, 9, .inl (fun _ => 0)))]) [0, 1, 2, 3, 4, 5, 6, 7, 8, 9, 10, 11] (by decide) rfl
  exact W.vret hx hb hr (fun t ht hW => ⟨⟨adr [q11, q16, (u20 0), (u20 1), (u20 2), (u20 3), q26, (u30 0), (u30 1), (u30 2), (u30 3)], rfl, trivial, by rw [ht]; exact hP9, hD9⟩, hS.F ht⟩) hS.2.2 dX5_init_37
theorem iX6_init_X6 : ∀ w ∈ wsX60, w ∈ wsX6_init := by decide +kernel
theorem wX6_init_acI : Cond.arrayClass .int ∈ wsX6_init := by decide +kernel
theorem wX6_init_acZ : Cond.arrayClass .boolean ∈ wsX6_init := by decide +kernel
theorem wX6_init_f15 : Cond.fieldLink RX6 15 "SkinInRafters$Sightings" "skinSeen" "[I" ∈ wsX6_init := by decide +kernel
theorem wX6_init_f19 : Cond.fieldLink RX6 19 "SkinInRafters$Sightings" "placeSeen" "[I" ∈ wsX6_init := by decide +kernel
theorem wX6_init_f22 : Cond.fieldLink RX6 22 "SkinInRafters$Sightings" "daySeen" "[I" ∈ wsX6_init := by decide +kernel
theorem wX6_init_f25 : Cond.fieldLink RX6 25 "SkinInRafters$Sightings" "wasThere" "[Z" ∈ wsX6_init := by decide +kernel
theorem wX6_init_f29 : Cond.fieldLink RX6 29 "SkinInRafters$Sightings" "path" "[I" ∈ wsX6_init := by decide +kernel
theorem wX6_init_f9 : Cond.fieldLink RX6 9 "SkinInRafters$Sightings" "held" "I" ∈ wsX6_init := by decide +kernel
theorem wX6_init_ml3 : Cond.methodLink RX6 3 objectInit ∈ wsX6_init := by decide +kernel
theorem wX6_init_oi : Cond.instanceMethod objectInit ∈ wsX6_init := by decide +kernel
set_option maxHeartbeats 4000000 in
set_option maxRecDepth 100000 in
theorem mX6_init {l : Launch} {D : va_G} {tc : Nat → ClassId} {sz : Nat} {a_t : Nat} : Met l yX6_init wsX6_init ({ frames := 1, cells := 5, slots := 93, locals := 12 } : Room) (va_Pc [.ref a_t] (wpre D tc [(a_t, .inr (6, [.int 0, .null, .null, .null, .null, .null]))] sz)) (va_Qv (S := Nat → Nat) (fun _ => True) (fun u => wpost D (va_A [(a_t, .inr (6, [.int 0, .null, .null, .null, .null, .null]))] sz) [(a_t, .inr (6, [.int 0, .ref (u 0), .ref (u 1), .ref (u 2), .ref (u 3), .ref (u 4)])), ((u 0), .inl (tc 0, 8, .inl (fun _ => 0))), ((u 1), .inl (tc 0, 8, .inl (fun _ => 0))), ((u 2), .inl (tc 0, 8, .inl (fun _ => 0))), ((u 3), .inl (tc 2, 8, .inl (fun _ => 0))), ((u 4), .inl (tc 0, 61, .inl (fun _ => 0)))]) (va_A [(a_t, .inr (6, [.int 0, .null, .null, .null, .null, .null]))] sz)) 5 93 (va_A [(a_t, .inr (6, [.int 0, .null, .null, .null, .null, .null]))] sz) := by
  refine Met.ofW (cc := cX6_init) (maxL := 1) (ret := none) (by decide) rfl ?_
  intro p e s m args below meth c s₁ B hml hv
  obtain ⟨rfl, hsz, hP, hK, hD0⟩ := hv
  have hx := B.exec
  have hb := B.bytes
  have hr := B.returns
  have hts := atoms_spec (ws := wsX6_init) B.pre
  have hown : s.vm.findClass RX6 = some m.cls := findClass_of_methodNamed B.named
  have hlocks := B.notSynchronized
  have hin : meth.name = "<init>" := (name_of_methodNamed B.named B.method).1
  subst hsz
  have hD := hD0.self (sz := s.heap.size)
  generalize hAe : va_A [(a_t, .inr (6, [.int 0, .null, .null, .null, .null, .null]))] s.heap.size = A at hD ⊢
  have hA : ∀ q : Nat, s.heap.size ≤ q → A q := fun q h => by rw [← hAe]; exact Or.inr h
  have hS : va_S A s.heap s.heap [] := va_S.rf
  have hP : va_P D vwCl [(a_t, .inr (6, [.int 0, .null, .null, .null, .null, .null]))] s.heap := hP
  have hl := lv_entry ([.ref a_t]) (n := 1) (Nat.le_of_ble_eq_true rfl)
  rw [lg_entry_eq]
  generalize (lg_sl ([.ref a_t]) ++ List.replicate (1 - (lg_sl ([.ref a_t])).length) Slot.unset).toArray = ls at hl ⊢
  have hl : lv_has ls 1 [(0, .ref a_t)] := hl
  suffices hsf : ∀ H : Heap, H = s.heap → W p l e _ s m _ below meth c H [] 0 0 _ _ from hsf _ rfl
  intro H hHe
  have hS : va_S A s.heap H [] := by rw [hHe]; exact hS
  have hP : va_P D vwCl [(a_t, .inr (6, [.int 0, .null, .null, .null, .null, .null]))] H := by rw [hHe]; exact hP
  refine lv_aload_n hx hb dX6_init_0 rfl (lv_at hl 0 rfl) ?_
  refine W.objInit hx hb hown (hts _ wX6_init_ml3) (hts _ wX6_init_oi) (hts _ (List.mem_of_getElem? (i := 3) rfl)) rfl (by rw [hml]; exact hl.1) rfl dX6_init_1 (Nat.le_of_ble_eq_true rfl) (Nat.le_of_ble_eq_true rfl) ?_
  refine W.eq (g2 := F0 m 4 ls []) rfl ?_
  refine lv_aload_n hx hb dX6_init_4 rfl (lv_at hl 0 rfl) ?_
  refine lv_iconst (v := 0) hx hb dX6_init_5 (by decide) ?_
  refine va_put (D := D) (ci := 6) (v := .int 0) (ty := .int) (C := RX6) (T := TX6) (N := 6) hx hb hts iX6_init_X6 tyX6 tyX6_ok nmX6 hown hK.1 hP hD hS 0 rfl rfl 0 (by decide) (hts _ wX6_init_f9) (fun _ h9 => h9) rfl (tyX6_ok 0 (by decide)) rfl rfl (Nat.le_of_ble_eq_true rfl) dX6_init_6 (fun H locs hP hD hS => ?_)
  have hP : va_P D vwCl [(a_t, .inr (6, [.int 0, .null, .null, .null, .null, .null]))] H := hP
  have hD : va_D A [(a_t, .inr (6, [.int 0, .null, .null, .null, .null, .null]))] := hD
  refine lv_aload_n hx hb dX6_init_9 rfl (lv_at hl 0 rfl) ?_
  refine lv_bipush (v := 8) hx hb dX6_init_10 (by decide) ?_
  refine va_newat (tc := tc) (atype := .int) (ty := .int) (N' := 8) (a0 := (8, .inl (fun _ => 0))) hx hb (hts _ wX6_init_acI) rfl hK.1 hP hD hS hA (fun _ h => h) 0 rfl (fun _ => rfl) (by decide) rfl (by decide) (Nat.le_of_ble_eq_true rfl) (Nat.le_of_ble_eq_true rfl) dX6_init_12 (fun q12 H hP hD hS => ?_)
  refine W.widen (k := 1) (n := 8) (by omega) (by omega) ?_
  have hP : va_P D vwCl [(a_t, .inr (6, [.int 0, .null, .null, .null, .null, .null])), (q12, .inl (tc 0, 8, .inl (fun _ => 0)))] H := hP
  have hD : va_D A [(a_t, .inr (6, [.int 0, .null, .null, .null, .null, .null])), (q12, .inl (tc 0, 8, .inl (fun _ => 0)))] := hD
  refine va_putF (D := D) (ci := 6) (v := .ref q12) (ty := .array .int) (C := RX6) (T := TX6) (N := 6) hx hb hts iX6_init_X6 tyX6 tyX6_ok nmX6 hown hK.1 hP hD hS 0 rfl rfl 1 (by decide) (hts _ wX6_init_f15) (fun _ h9 => h9) rfl hin rfl (tyX6_ok 1 (by decide)) rfl rfl (Nat.le_of_ble_eq_true rfl) dX6_init_14 (fun H locs hP hD hS => ?_)
  have hP : va_P D vwCl [(a_t, .inr (6, [.int 0, .ref q12, .null, .null, .null, .null])), (q12, .inl (tc 0, 8, .inl (fun _ => 0)))] H := hP
  have hD : va_D A [(a_t, .inr (6, [.int 0, .ref q12, .null, .null, .null, .null])), (q12, .inl (tc 0, 8, .inl (fun _ => 0)))] := hD
  refine lv_aload_n hx hb dX6_init_17 rfl (lv_at hl 0 rfl) ?_
  refine lv_bipush (v := 8) hx hb dX6_init_18 (by decide) ?_
  refine va_newat (tc := tc) (atype := .int) (ty := .int) (N' := 8) (a0 := (8, .inl (fun _ => 0))) hx hb (hts _ wX6_init_acI) rfl hK.1 hP hD hS hA (fun _ h => h) 0 rfl (fun _ => rfl) (by decide) rfl (by decide) (Nat.le_of_ble_eq_true rfl) (Nat.le_of_ble_eq_true rfl) dX6_init_20 (fun q20 H hP hD hS => ?_)
  refine W.widen (k := 2) (n := 16) (by omega) (by omega) ?_
  have hP : va_P D vwCl [(a_t, .inr (6, [.int 0, .ref q12, .null, .null, .null, .null])), (q12, .inl (tc 0, 8, .inl (fun _ => 0))), (q20, .inl (tc 0, 8, .inl (fun _ => 0)))] H := hP
  have hD : va_D A [(a_t, .inr (6, [.int 0, .ref q12, .null, .null, .null, .null])), (q12, .inl (tc 0, 8, .inl (fun _ => 0))), (q20, .inl (tc 0, 8, .inl (fun _ => 0)))] := hD
  refine va_putF (D := D) (ci := 6) (v := .ref q20) (ty := .array .int) (C := RX6) (T := TX6) (N := 6) hx hb hts iX6_init_X6 tyX6 tyX6_ok nmX6 hown hK.1 hP hD hS 0 rfl rfl 2 (by decide) (hts _ wX6_init_f19) (fun _ h9 => h9) rfl hin rfl (tyX6_ok 2 (by decide)) rfl rfl (Nat.le_of_ble_eq_true rfl) dX6_init_22 (fun H locs hP hD hS => ?_)
  have hP : va_P D vwCl [(a_t, .inr (6, [.int 0, .ref q12, .ref q20, .null, .null, .null])), (q12, .inl (tc 0, 8, .inl (fun _ => 0))), (q20, .inl (tc 0, 8, .inl (fun _ => 0)))] H := hP
  have hD : va_D A [(a_t, .inr (6, [.int 0, .ref q12, .ref q20, .null, .null, .null])), (q12, .inl (tc 0, 8, .inl (fun _ => 0))), (q20, .inl (tc 0, 8, .inl (fun _ => 0)))] := hD
  refine lv_aload_n hx hb dX6_init_25 rfl (lv_at hl 0 rfl) ?_
  refine lv_bipush (v := 8) hx hb dX6_init_26 (by decide) ?_
  refine va_newat (tc := tc) (atype := .int) (ty := .int) (N' := 8) (a0 := (8, .inl (fun _ => 0))) hx hb (hts _ wX6_init_acI) rfl hK.1 hP hD hS hA (fun _ h => h) 0 rfl (fun _ => rfl) (by decide) rfl (by decide) (Nat.le_of_ble_eq_true rfl) (Nat.le_of_ble_eq_true rfl) dX6_init_28 (fun q28 H hP hD hS => ?_)
  refine W.widen (k := 3) (n := 24) (by omega) (by omega) ?_
  have hP : va_P D vwCl [(a_t, .inr (6, [.int 0, .ref q12, .ref q20, .null, .null, .null])), (q12, .inl (tc 0, 8, .inl (fun _ => 0))), (q20, .inl (tc 0, 8, .inl (fun _ => 0))), (q28, .inl (tc 0, 8, .inl (fun _ => 0)))] H := hP
  have hD : va_D A [(a_t, .inr (6, [.int 0, .ref q12, .ref q20, .null, .null, .null])), (q12, .inl (tc 0, 8, .inl (fun _ => 0))), (q20, .inl (tc 0, 8, .inl (fun _ => 0))), (q28, .inl (tc 0, 8, .inl (fun _ => 0)))] := hD
  refine va_putF (D := D) (ci := 6) (v := .ref q28) (ty := .array .int) (C := RX6) (T := TX6) (N := 6) hx hb hts iX6_init_X6 tyX6 tyX6_ok nmX6 hown hK.1 hP hD hS 0 rfl rfl 3 (by decide) (hts _ wX6_init_f22) (fun _ h9 => h9) rfl hin rfl (tyX6_ok 3 (by decide)) rfl rfl (Nat.le_of_ble_eq_true rfl) dX6_init_30 (fun H locs hP hD hS => ?_)
  have hP : va_P D vwCl [(a_t, .inr (6, [.int 0, .ref q12, .ref q20, .ref q28, .null, .null])), (q12, .inl (tc 0, 8, .inl (fun _ => 0))), (q20, .inl (tc 0, 8, .inl (fun _ => 0))), (q28, .inl (tc 0, 8, .inl (fun _ => 0)))] H := hP
  have hD : va_D A [(a_t, .inr (6, [.int 0, .ref q12, .ref q20, .ref q28, .null, .null])), (q12, .inl (tc 0, 8, .inl (fun _ => 0))), (q20, .inl (tc 0, 8, .inl (fun _ => 0))), (q28, .inl (tc 0, 8, .inl (fun _ => 0)))] := hD
  refine lv_aload_n hx hb dX6_init_33 rfl (lv_at hl 0 rfl) ?_
  refine lv_bipush (v := 8) hx hb dX6_init_34 (by decide) ?_
  refine va_newat (tc := tc) (atype := .boolean) (ty := .boolean) (N' := 8) (a0 := (8, .inl (fun _ => 0))) hx hb (hts _ wX6_init_acZ) rfl hK.1 hP hD hS hA (fun _ h => h) 2 rfl (fun _ => rfl) (by decide) rfl (by decide) (Nat.le_of_ble_eq_true rfl) (Nat.le_of_ble_eq_true rfl) dX6_init_36 (fun q36 H hP hD hS => ?_)
  refine W.widen (k := 4) (n := 32) (by omega) (by omega) ?_
  have hP : va_P D vwCl [(a_t, .inr (6, [.int 0, .ref q12, .ref q20, .ref q28, .null, .null])), (q12, .inl (tc 0, 8, .inl (fun _ => 0))), (q20, .inl (tc 0, 8, .inl (fun _ => 0))), (q28, .inl (tc 0, 8, .inl (fun _ => 0))), (q36, .inl (tc 2, 8, .inl (fun _ => 0)))] H := hP
  have hD : va_D A [(a_t, .inr (6, [.int 0, .ref q12, .ref q20, .ref q28, .null, .null])), (q12, .inl (tc 0, 8, .inl (fun _ => 0))), (q20, .inl (tc 0, 8, .inl (fun _ => 0))), (q28, .inl (tc 0, 8, .inl (fun _ => 0))), (q36, .inl (tc 2, 8, .inl (fun _ => 0)))] := hD
  refine va_putF (D := D) (ci := 6) (v := .ref q36) (ty := .array .boolean) (C := RX6) (T := TX6) (N := 6) hx hb hts iX6_init_X6 tyX6 tyX6_ok nmX6 hown hK.1 hP hD hS 0 rfl rfl 4 (by decide) (hts _ wX6_init_f25) (fun _ h9 => h9) rfl hin rfl (tyX6_ok 4 (by decide)) rfl rfl (Nat.le_of_ble_eq_true rfl) dX6_init_38 (fun H locs hP hD hS => ?_)
  have hP : va_P D vwCl [(a_t, .inr (6, [.int 0, .ref q12, .ref q20, .ref q28, .ref q36, .null])), (q12, .inl (tc 0, 8, .inl (fun _ => 0))), (q20, .inl (tc 0, 8, .inl (fun _ => 0))), (q28, .inl (tc 0, 8, .inl (fun _ => 0))), (q36, .inl (tc 2, 8, .inl (fun _ => 0)))] H := hP
  have hD : va_D A [(a_t, .inr (6, [.int 0, .ref q12, .ref q20, .ref q28, .ref q36, .null])), (q12, .inl (tc 0, 8, .inl (fun _ => 0))), (q20, .inl (tc 0, 8, .inl (fun _ => 0))), (q28, .inl (tc 0, 8, .inl (fun _ => 0))), (q36, .inl (tc 2, 8, .inl (fun _ => 0)))] := hD
  refine lv_aload_n hx hb dX6_init_41 rfl (lv_at hl 0 rfl) ?_
  refine lv_bipush (v := 61) hx hb dX6_init_42 (by decide) ?_
  refine va_newat (tc := tc) (atype := .int) (ty := .int) (N' := 61) (a0 := (61, .inl (fun _ => 0))) hx hb (hts _ wX6_init_acI) rfl hK.1 hP hD hS hA (fun _ h => h) 0 rfl (fun _ => rfl) (by decide) rfl (by decide) (Nat.le_of_ble_eq_true rfl) (Nat.le_of_ble_eq_true rfl) dX6_init_44 (fun q44 H hP hD hS => ?_)
  refine W.widen (k := 5) (n := 93) (by omega) (by omega) ?_
  have hP : va_P D vwCl [(a_t, .inr (6, [.int 0, .ref q12, .ref q20, .ref q28, .ref q36, .null])), (q12, .inl (tc 0, 8, .inl (fun _ => 0))), (q20, .inl (tc 0, 8, .inl (fun _ => 0))), (q28, .inl (tc 0, 8, .inl (fun _ => 0))), (q36, .inl (tc 2, 8, .inl (fun _ => 0))), (q44, .inl (tc 0, 61, .inl (fun _ => 0)))] H := hP
  have hD : va_D A [(a_t, .inr (6, [.int 0, .ref q12, .ref q20, .ref q28, .ref q36, .null])), (q12, .inl (tc 0, 8, .inl (fun _ => 0))), (q20, .inl (tc 0, 8, .inl (fun _ => 0))), (q28, .inl (tc 0, 8, .inl (fun _ => 0))), (q36, .inl (tc 2, 8, .inl (fun _ => 0))), (q44, .inl (tc 0, 61, .inl (fun _ => 0)))] := hD
  refine va_putF (D := D) (ci := 6) (v := .ref q44) (ty := .array .int) (C := RX6) (T := TX6) (N := 6) hx hb hts iX6_init_X6 tyX6 tyX6_ok nmX6 hown hK.1 hP hD hS 0 rfl rfl 5 (by decide) (hts _ wX6_init_f29) (fun _ h9 => h9) rfl hin rfl (tyX6_ok 5 (by decide)) rfl rfl (Nat.le_of_ble_eq_true rfl) dX6_init_46 (fun H locs hP hD hS => ?_)
  have hP : va_P D vwCl [(a_t, .inr (6, [.int 0, .ref q12, .ref q20, .ref q28, .ref q36, .ref q44])), (q12, .inl (tc 0, 8, .inl (fun _ => 0))), (q20, .inl (tc 0, 8, .inl (fun _ => 0))), (q28, .inl (tc 0, 8, .inl (fun _ => 0))), (q36, .inl (tc 2, 8, .inl (fun _ => 0))), (q44, .inl (tc 0, 61, .inl (fun _ => 0)))] H := hP
  have hD : va_D A [(a_t, .inr (6, [.int 0, .ref q12, .ref q20, .ref q28, .ref q36, .ref q44])), (q12, .inl (tc 0, 8, .inl (fun _ => 0))), (q20, .inl (tc 0, 8, .inl (fun _ => 0))), (q28, .inl (tc 0, 8, .inl (fun _ => 0))), (q36, .inl (tc 2, 8, .inl (fun _ => 0))), (q44, .inl (tc 0, 61, .inl (fun _ => 0)))] := hD
  have hP9 := hP.sub (ws' := [(a_t, .inr (6, [.int 0, .ref q12, .ref q20, .ref q28, .ref q36, .ref q44])), (q12, .inl (tc 0, 8, .inl (fun _ => 0))), (q20, .inl (tc 0, 8, .inl (fun _ => 0))), (q28, .inl (tc 0, 8, .inl (fun _ => 0))), (q36, .inl (tc 2, 8, .inl (fun _ => 0))), (q44, .inl (tc 0, 61, .inl (fun _ => 0)))]) [0, 1, 2, 3, 4, 5] rfl
  have hD9 := hD.sub (ws' := [(a_t, .inr (6, [.int 0, .ref q12, .ref q20, .ref q28, .ref q36, .ref q44])), (q12, .inl (tc 0, 8, .inl (fun _ => 0))), (q20, .inl (tc 0, 8, .inl (fun _ => 0))), (q28, .inl (tc 0, 8, .inl (fun _ => 0))), (q36, .inl (tc 2, 8, .inl (fun _ => 0))), (q44, .inl (tc 0, 61, .inl (fun _ => 0)))]) [0, 1, 2, 3, 4, 5] (by decide) rfl
  exact W.vret hx hb hr (fun t ht hW => ⟨⟨adr [q12, q20, q28, q36, q44], rfl, trivial, by rw [ht]; exact hP9, hD9⟩, hS.F ht⟩) hS.2.2 dX6_init_49
theorem iX7_init_X2 : ∀ w ∈ wsX20, w ∈ wsX7_init := by decide +kernel
theorem iX7_init_X7 : ∀ w ∈ wsX70, w ∈ wsX7_init := by decide +kernel
theorem wX7_init_acI : Cond.arrayClass .int ∈ wsX7_init := by decide +kernel
theorem wX7_init_cl37 : Cond.classLink RX7 37 RX2 ∈ wsX7_init := by decide +kernel
theorem wX7_init_f15 : Cond.fieldLink RX7 15 "SkinInRafters$Town" "house" "[I" ∈ wsX7_init := by decide +kernel
theorem wX7_init_f19 : Cond.fieldLink RX7 19 "SkinInRafters$Town" "view" "[I" ∈ wsX7_init := by decide +kernel
theorem wX7_init_f22 : Cond.fieldLink RX7 22 "SkinInRafters$Town" "skins" "I" ∈ wsX7_init := by decide +kernel
theorem wX7_init_f25 : Cond.fieldLink RX7 25 "SkinInRafters$Town" "girth" "[I" ∈ wsX7_init := by decide +kernel
theorem wX7_init_f28 : Cond.fieldLink RX7 28 "SkinInRafters$Town" "kind" "[I" ∈ wsX7_init := by decide +kernel
theorem wX7_init_f31 : Cond.fieldLink RX7 31 "SkinInRafters$Town" "smoke" "I" ∈ wsX7_init := by decide +kernel
theorem wX7_init_f34 : Cond.fieldLink RX7 34 "SkinInRafters$Town" "tide" "I" ∈ wsX7_init := by decide +kernel
theorem wX7_init_f40 : Cond.fieldLink RX7 40 "SkinInRafters$Town" "hiding" "LSkinInRafters$Hiding;" ∈ wsX7_init := by decide +kernel
theorem wX7_init_f9 : Cond.fieldLink RX7 9 "SkinInRafters$Town" "places" "I" ∈ wsX7_init := by decide +kernel
theorem wX7_init_imX2_init : Cond.instanceMethod yX2_init ∈ wsX7_init := by decide +kernel
theorem wX7_init_inX2 : Cond.instantiable RX2 5 ∈ wsX7_init := by decide +kernel
theorem wX7_init_iniX2 : Cond.initialized RX2 ∈ wsX7_init := by decide +kernel
theorem wX7_init_ml3 : Cond.methodLink RX7 3 objectInit ∈ wsX7_init := by decide +kernel
theorem wX7_init_oi : Cond.instanceMethod objectInit ∈ wsX7_init := by decide +kernel
set_option maxHeartbeats 4000000 in
set_option maxRecDepth 100000 in
theorem mX7_init {l : Launch} {D : va_G} {tc : Nat → ClassId} {sz : Nat} {a_t : Nat} : Met l yX7_init wsX7_init ({ frames := 2, cells := 9, slots := 65, locals := 32 } : Room) (va_Pc [.ref a_t] (wpre D tc [(a_t, .inr (7, [.int 0, .null, .null, .int 0, .null, .null, .int 0, .int 0, .null]))] sz)) (va_Qv (S := Nat → Nat) (fun _ => True) (fun u => wpost D (va_A [(a_t, .inr (7, [.int 0, .null, .null, .int 0, .null, .null, .int 0, .int 0, .null]))] sz) [(a_t, .inr (7, [.int 0, .ref (u 0), .ref (u 1), .int 0, .ref (u 2), .ref (u 3), .int 0, .int 1, .ref (u 4)])), ((u 0), .inl (tc 0, 9, .inl (fun _ => 0))), ((u 1), .inl (tc 0, 9, .inl (fun _ => 0))), ((u 2), .inl (tc 0, 5, .inl (fun _ => 0))), ((u 3), .inl (tc 0, 5, .inl (fun _ => 0))), ((u 4), .inr (2, [.ref (u 5), .int 0, .ref (u 6), .ref (u 7), .ref (u 8)])), ((u 5), .inl (tc 0, 5, .inl (fun _ => 0))), ((u 6), .inl (tc 0, 9, .inl (fun _ => 0))), ((u 7), .inl (tc 0, 9, .inl (fun _ => 0))), ((u 8), .inl (tc 0, 9, .inl (fun _ => 0)))]) (va_A [(a_t, .inr (7, [.int 0, .null, .null, .int 0, .null, .null, .int 0, .int 0, .null]))] sz)) 9 65 (va_A [(a_t, .inr (7, [.int 0, .null, .null, .int 0, .null, .null, .int 0, .int 0, .null]))] sz) := by
  refine Met.ofW (cc := cX7_init) (maxL := 1) (ret := none) (by decide) rfl ?_
  intro p e s m args below meth c s₁ B hml hv
  obtain ⟨rfl, hsz, hP, hK, hD0⟩ := hv
  have hx := B.exec
  have hb := B.bytes
  have hr := B.returns
  have hts := atoms_spec (ws := wsX7_init) B.pre
  have hown : s.vm.findClass RX7 = some m.cls := findClass_of_methodNamed B.named
  have hlocks := B.notSynchronized
  have hin : meth.name = "<init>" := (name_of_methodNamed B.named B.method).1
  subst hsz
  have hD := hD0.self (sz := s.heap.size)
  generalize hAe : va_A [(a_t, .inr (7, [.int 0, .null, .null, .int 0, .null, .null, .int 0, .int 0, .null]))] s.heap.size = A at hD ⊢
  have hA : ∀ q : Nat, s.heap.size ≤ q → A q := fun q h => by rw [← hAe]; exact Or.inr h
  have hS : va_S A s.heap s.heap [] := va_S.rf
  have hP : va_P D vwCl [(a_t, .inr (7, [.int 0, .null, .null, .int 0, .null, .null, .int 0, .int 0, .null]))] s.heap := hP
  have hl := lv_entry ([.ref a_t]) (n := 1) (Nat.le_of_ble_eq_true rfl)
  rw [lg_entry_eq]
  generalize (lg_sl ([.ref a_t]) ++ List.replicate (1 - (lg_sl ([.ref a_t])).length) Slot.unset).toArray = ls at hl ⊢
  have hl : lv_has ls 1 [(0, .ref a_t)] := hl
  suffices hsf : ∀ H : Heap, H = s.heap → W p l e _ s m _ below meth c H [] 0 0 _ _ from hsf _ rfl
  intro H hHe
  have hS : va_S A s.heap H [] := by rw [hHe]; exact hS
  have hP : va_P D vwCl [(a_t, .inr (7, [.int 0, .null, .null, .int 0, .null, .null, .int 0, .int 0, .null]))] H := by rw [hHe]; exact hP
  refine lv_aload_n hx hb dX7_init_0 rfl (lv_at hl 0 rfl) ?_
  refine W.objInit hx hb hown (hts _ wX7_init_ml3) (hts _ wX7_init_oi) (hts _ (List.mem_of_getElem? (i := 3) rfl)) rfl (by rw [hml]; exact hl.1) rfl dX7_init_1 (Nat.le_of_ble_eq_true rfl) (Nat.le_of_ble_eq_true rfl) ?_
  refine W.eq (g2 := F0 m 4 ls []) rfl ?_
  refine lv_aload_n hx hb dX7_init_4 rfl (lv_at hl 0 rfl) ?_
  refine lv_iconst (v := 0) hx hb dX7_init_5 (by decide) ?_
  refine va_put (D := D) (ci := 7) (v := .int 0) (ty := .int) (C := RX7) (T := TX7) (N := 9) hx hb hts iX7_init_X7 tyX7 tyX7_ok nmX7 hown hK.1 hP hD hS 0 rfl rfl 0 (by decide) (hts _ wX7_init_f9) (fun _ h9 => h9) rfl (tyX7_ok 0 (by decide)) rfl rfl (Nat.le_of_ble_eq_true rfl) dX7_init_6 (fun H locs hP hD hS => ?_)
  have hP : va_P D vwCl [(a_t, .inr (7, [.int 0, .null, .null, .int 0, .null, .null, .int 0, .int 0, .null]))] H := hP
  have hD : va_D A [(a_t, .inr (7, [.int 0, .null, .null, .int 0, .null, .null, .int 0, .int 0, .null]))] := hD
  refine lv_aload_n hx hb dX7_init_9 rfl (lv_at hl 0 rfl) ?_
  refine lv_bipush (v := 9) hx hb dX7_init_10 (by decide) ?_
  refine va_newat (tc := tc) (atype := .int) (ty := .int) (N' := 9) (a0 := (9, .inl (fun _ => 0))) hx hb (hts _ wX7_init_acI) rfl hK.1 hP hD hS hA (fun _ h => h) 0 rfl (fun _ => rfl) (by decide) rfl (by decide) (Nat.le_of_ble_eq_true rfl) (Nat.le_of_ble_eq_true rfl) dX7_init_12 (fun q12 H hP hD hS => ?_)
  refine W.widen (k := 1) (n := 9) (by omega) (by omega) ?_
  have hP : va_P D vwCl [(a_t, .inr (7, [.int 0, .null, .null, .int 0, .null, .null, .int 0, .int 0, .null])), (q12, .inl (tc 0, 9, .inl (fun _ => 0)))] H := hP
  have hD : va_D A [(a_t, .inr (7, [.int 0, .null, .null, .int 0, .null, .null, .int 0, .int 0, .null])), (q12, .inl (tc 0, 9, .inl (fun _ => 0)))] := hD
  refine va_putF (D := D) (ci := 7) (v := .ref q12) (ty := .array .int) (C := RX7) (T := TX7) (N := 9) hx hb hts iX7_init_X7 tyX7 tyX7_ok nmX7 hown hK.1 hP hD hS 0 rfl rfl 1 (by decide) (hts _ wX7_init_f15) (fun _ h9 => h9) rfl hin rfl (tyX7_ok 1 (by decide)) rfl rfl (Nat.le_of_ble_eq_true rfl) dX7_init_14 (fun H locs hP hD hS => ?_)
  have hP : va_P D vwCl [(a_t, .inr (7, [.int 0, .ref q12, .null, .int 0, .null, .null, .int 0, .int 0, .null])), (q12, .inl (tc 0, 9, .inl (fun _ => 0)))] H := hP
  have hD : va_D A [(a_t, .inr (7, [.int 0, .ref q12, .null, .int 0, .null, .null, .int 0, .int 0, .null])), (q12, .inl (tc 0, 9, .inl (fun _ => 0)))] := hD
  refine lv_aload_n hx hb dX7_init_17 rfl (lv_at hl 0 rfl) ?_
  refine lv_bipush (v := 9) hx hb dX7_init_18 (by decide) ?_
  refine va_newat (tc := tc) (atype := .int) (ty := .int) (N' := 9) (a0 := (9, .inl (fun _ => 0))) hx hb (hts _ wX7_init_acI) rfl hK.1 hP hD hS hA (fun _ h => h) 0 rfl (fun _ => rfl) (by decide) rfl (by decide) (Nat.le_of_ble_eq_true rfl) (Nat.le_of_ble_eq_true rfl) dX7_init_20 (fun q20 H hP hD hS => ?_)
  refine W.widen (k := 2) (n := 18) (by omega) (by omega) ?_
  have hP : va_P D vwCl [(a_t, .inr (7, [.int 0, .ref q12, .null, .int 0, .null, .null, .int 0, .int 0, .null])), (q12, .inl (tc 0, 9, .inl (fun _ => 0))), (q20, .inl (tc 0, 9, .inl (fun _ => 0)))] H := hP
  have hD : va_D A [(a_t, .inr (7, [.int 0, .ref q12, .null, .int 0, .null, .null, .int 0, .int 0, .null])), (q12, .inl (tc 0, 9, .inl (fun _ => 0))), (q20, .inl (tc 0, 9, .inl (fun _ => 0)))] := hD
  refine va_putF (D := D) (ci := 7) (v := .ref q20) (ty := .array .int) (C := RX7) (T := TX7) (N := 9) hx hb hts iX7_init_X7 tyX7 tyX7_ok nmX7 hown hK.1 hP hD hS 0 rfl rfl 2 (by decide) (hts _ wX7_init_f19) (fun _ h9 => h9) rfl hin rfl (tyX7_ok 2 (by decide)) rfl rfl (Nat.le_of_ble_eq_true rfl) dX7_init_22 (fun H locs hP hD hS => ?_)
  have hP : va_P D vwCl [(a_t, .inr (7, [.int 0, .ref q12, .ref q20, .int 0, .null, .null, .int 0, .int 0, .null])), (q12, .inl (tc 0, 9, .inl (fun _ => 0))), (q20, .inl (tc 0, 9, .inl (fun _ => 0)))] H := hP
  have hD : va_D A [(a_t, .inr (7, [.int 0, .ref q12, .ref q20, .int 0, .null, .null, .int 0, .int 0, .null])), (q12, .inl (tc 0, 9, .inl (fun _ => 0))), (q20, .inl (tc 0, 9, .inl (fun _ => 0)))] := hD
  refine lv_aload_n hx hb dX7_init_25 rfl (lv_at hl 0 rfl) ?_
  refine lv_iconst (v := 0) hx hb dX7_init_26 (by decide) ?_
  refine va_put (D := D) (ci := 7) (v := .int 0) (ty := .int) (C := RX7) (T := TX7) (N := 9) hx hb hts iX7_init_X7 tyX7 tyX7_ok nmX7 hown hK.1 hP hD hS 0 rfl rfl 3 (by decide) (hts _ wX7_init_f22) (fun _ h9 => h9) rfl (tyX7_ok 3 (by decide)) rfl rfl (Nat.le_of_ble_eq_true rfl) dX7_init_27 (fun H locs hP hD hS => ?_)
  have hP : va_P D vwCl [(a_t, .inr (7, [.int 0, .ref q12, .ref q20, .int 0, .null, .null, .int 0, .int 0, .null])), (q12, .inl (tc 0, 9, .inl (fun _ => 0))), (q20, .inl (tc 0, 9, .inl (fun _ => 0)))] H := hP
  have hD : va_D A [(a_t, .inr (7, [.int 0, .ref q12, .ref q20, .int 0, .null, .null, .int 0, .int 0, .null])), (q12, .inl (tc 0, 9, .inl (fun _ => 0))), (q20, .inl (tc 0, 9, .inl (fun _ => 0)))] := hD
  refine lv_aload_n hx hb dX7_init_30 rfl (lv_at hl 0 rfl) ?_
  refine lv_iconst (v := 5) hx hb dX7_init_31 (by decide) ?_
  refine va_newat (tc := tc) (atype := .int) (ty := .int) (N' := 5) (a0 := (5, .inl (fun _ => 0))) hx hb (hts _ wX7_init_acI) rfl hK.1 hP hD hS hA (fun _ h => h) 0 rfl (fun _ => rfl) (by decide) rfl (by decide) (Nat.le_of_ble_eq_true rfl) (Nat.le_of_ble_eq_true rfl) dX7_init_32 (fun q32 H hP hD hS => ?_)
  refine W.widen (k := 3) (n := 23) (by omega) (by omega) ?_
  have hP : va_P D vwCl [(a_t, .inr (7, [.int 0, .ref q12, .ref q20, .int 0, .null, .null, .int 0, .int 0, .null])), (q12, .inl (tc 0, 9, .inl (fun _ => 0))), (q20, .inl (tc 0, 9, .inl (fun _ => 0))), (q32, .inl (tc 0, 5, .inl (fun _ => 0)))] H := hP
  have hD : va_D A [(a_t, .inr (7, [.int 0, .ref q12, .ref q20, .int 0, .null, .null, .int 0, .int 0, .null])), (q12, .inl (tc 0, 9, .inl (fun _ => 0))), (q20, .inl (tc 0, 9, .inl (fun _ => 0))), (q32, .inl (tc 0, 5, .inl (fun _ => 0)))] := hD
  refine va_putF (D := D) (ci := 7) (v := .ref q32) (ty := .array .int) (C := RX7) (T := TX7) (N := 9) hx hb hts iX7_init_X7 tyX7 tyX7_ok nmX7 hown hK.1 hP hD hS 0 rfl rfl 4 (by decide) (hts _ wX7_init_f25) (fun _ h9 => h9) rfl hin rfl (tyX7_ok 4 (by decide)) rfl rfl (Nat.le_of_ble_eq_true rfl) dX7_init_34 (fun H locs hP hD hS => ?_)
  have hP : va_P D vwCl [(a_t, .inr (7, [.int 0, .ref q12, .ref q20, .int 0, .ref q32, .null, .int 0, .int 0, .null])), (q12, .inl (tc 0, 9, .inl (fun _ => 0))), (q20, .inl (tc 0, 9, .inl (fun _ => 0))), (q32, .inl (tc 0, 5, .inl (fun _ => 0)))] H := hP
  have hD : va_D A [(a_t, .inr (7, [.int 0, .ref q12, .ref q20, .int 0, .ref q32, .null, .int 0, .int 0, .null])), (q12, .inl (tc 0, 9, .inl (fun _ => 0))), (q20, .inl (tc 0, 9, .inl (fun _ => 0))), (q32, .inl (tc 0, 5, .inl (fun _ => 0)))] := hD
  refine lv_aload_n hx hb dX7_init_37 rfl (lv_at hl 0 rfl) ?_
  refine lv_iconst (v := 5) hx hb dX7_init_38 (by decide) ?_
  refine va_newat (tc := tc) (atype := .int) (ty := .int) (N' := 5) (a0 := (5, .inl (fun _ => 0))) hx hb (hts _ wX7_init_acI) rfl hK.1 hP hD hS hA (fun _ h => h) 0 rfl (fun _ => rfl) (by decide) rfl (by decide) (Nat.le_of_ble_eq_true rfl) (Nat.le_of_ble_eq_true rfl) dX7_init_39 (fun q39 H hP hD hS => ?_)
  refine W.widen (k := 4) (n := 28) (by omega) (by omega) ?_
  have hP : va_P D vwCl [(a_t, .inr (7, [.int 0, .ref q12, .ref q20, .int 0, .ref q32, .null, .int 0, .int 0, .null])), (q12, .inl (tc 0, 9, .inl (fun _ => 0))), (q20, .inl (tc 0, 9, .inl (fun _ => 0))), (q32, .inl (tc 0, 5, .inl (fun _ => 0))), (q39, .inl (tc 0, 5, .inl (fun _ => 0)))] H := hP
  have hD : va_D A [(a_t, .inr (7, [.int 0, .ref q12, .ref q20, .int 0, .ref q32, .null, .int 0, .int 0, .null])), (q12, .inl (tc 0, 9, .inl (fun _ => 0))), (q20, .inl (tc 0, 9, .inl (fun _ => 0))), (q32, .inl (tc 0, 5, .inl (fun _ => 0))), (q39, .inl (tc 0, 5, .inl (fun _ => 0)))] := hD
  refine va_putF (D := D) (ci := 7) (v := .ref q39) (ty := .array .int) (C := RX7) (T := TX7) (N := 9) hx hb hts iX7_init_X7 tyX7 tyX7_ok nmX7 hown hK.1 hP hD hS 0 rfl rfl 5 (by decide) (hts _ wX7_init_f28) (fun _ h9 => h9) rfl hin rfl (tyX7_ok 5 (by decide)) rfl rfl (Nat.le_of_ble_eq_true rfl) dX7_init_41 (fun H locs hP hD hS => ?_)
  have hP : va_P D vwCl [(a_t, .inr (7, [.int 0, .ref q12, .ref q20, .int 0, .ref q32, .ref q39, .int 0, .int 0, .null])), (q12, .inl (tc 0, 9, .inl (fun _ => 0))), (q20, .inl (tc 0, 9, .inl (fun _ => 0))), (q32, .inl (tc 0, 5, .inl (fun _ => 0))), (q39, .inl (tc 0, 5, .inl (fun _ => 0)))] H := hP
  have hD : va_D A [(a_t, .inr (7, [.int 0, .ref q12, .ref q20, .int 0, .ref q32, .ref q39, .int 0, .int 0, .null])), (q12, .inl (tc 0, 9, .inl (fun _ => 0))), (q20, .inl (tc 0, 9, .inl (fun _ => 0))), (q32, .inl (tc 0, 5, .inl (fun _ => 0))), (q39, .inl (tc 0, 5, .inl (fun _ => 0)))] := hD
  refine lv_aload_n hx hb dX7_init_44 rfl (lv_at hl 0 rfl) ?_
  refine lv_iconst (v := 0) hx hb dX7_init_45 (by decide) ?_
  refine va_put (D := D) (ci := 7) (v := .int 0) (ty := .int) (C := RX7) (T := TX7) (N := 9) hx hb hts iX7_init_X7 tyX7 tyX7_ok nmX7 hown hK.1 hP hD hS 0 rfl rfl 6 (by decide) (hts _ wX7_init_f31) (fun _ h9 => h9) rfl (tyX7_ok 6 (by decide)) rfl rfl (Nat.le_of_ble_eq_true rfl) dX7_init_46 (fun H locs hP hD hS => ?_)
  have hP : va_P D vwCl [(a_t, .inr (7, [.int 0, .ref q12, .ref q20, .int 0, .ref q32, .ref q39, .int 0, .int 0, .null])), (q12, .inl (tc 0, 9, .inl (fun _ => 0))), (q20, .inl (tc 0, 9, .inl (fun _ => 0))), (q32, .inl (tc 0, 5, .inl (fun _ => 0))), (q39, .inl (tc 0, 5, .inl (fun _ => 0)))] H := hP
  have hD : va_D A [(a_t, .inr (7, [.int 0, .ref q12, .ref q20, .int 0, .ref q32, .ref q39, .int 0, .int 0, .null])), (q12, .inl (tc 0, 9, .inl (fun _ => 0))), (q20, .inl (tc 0, 9, .inl (fun _ => 0))), (q32, .inl (tc 0, 5, .inl (fun _ => 0))), (q39, .inl (tc 0, 5, .inl (fun _ => 0)))] := hD
  refine lv_aload_n hx hb dX7_init_49 rfl (lv_at hl 0 rfl) ?_
  refine lv_iconst (v := 1) hx hb dX7_init_50 (by decide) ?_
  refine va_put (D := D) (ci := 7) (v := .int 1) (ty := .int) (C := RX7) (T := TX7) (N := 9) hx hb hts iX7_init_X7 tyX7 tyX7_ok nmX7 hown hK.1 hP hD hS 0 rfl rfl 7 (by decide) (hts _ wX7_init_f34) (fun _ h9 => h9) rfl (tyX7_ok 7 (by decide)) rfl rfl (Nat.le_of_ble_eq_true rfl) dX7_init_51 (fun H locs hP hD hS => ?_)
  have hP : va_P D vwCl [(a_t, .inr (7, [.int 0, .ref q12, .ref q20, .int 0, .ref q32, .ref q39, .int 0, .int 1, .null])), (q12, .inl (tc 0, 9, .inl (fun _ => 0))), (q20, .inl (tc 0, 9, .inl (fun _ => 0))), (q32, .inl (tc 0, 5, .inl (fun _ => 0))), (q39, .inl (tc 0, 5, .inl (fun _ => 0)))] H := hP
  have hD : va_D A [(a_t, .inr (7, [.int 0, .ref q12, .ref q20, .int 0, .ref q32, .ref q39, .int 0, .int 1, .null])), (q12, .inl (tc 0, 9, .inl (fun _ => 0))), (q20, .inl (tc 0, 9, .inl (fun _ => 0))), (q32, .inl (tc 0, 5, .inl (fun _ => 0))), (q39, .inl (tc 0, 5, .inl (fun _ => 0)))] := hD
  refine lv_aload_n hx hb dX7_init_54 rfl (lv_at hl 0 rfl) ?_
  refine va_new (ci := 2) (fs := [.null, .int 0, .null, .null, .null]) (C := RX2) (T := TX2) (N := 5) hx hb hts iX7_init_X2 tyX2 tyX2_ok hown (hts _ wX7_init_cl37) (hts _ wX7_init_inX2) (hts _ wX7_init_iniX2) hK.1 hP hD hS hA rfl (fun j hj => by rcases (show j = 0 ∨ j = 1 ∨ j = 2 ∨ j = 3 ∨ j = 4 by omega) with rfl | rfl | rfl | rfl | rfl <;> rfl) (Nat.le_of_ble_eq_true rfl) (Nat.le_of_ble_eq_true rfl) dX7_init_55 (fun q55 H hP hD hS => ?_)
  refine W.widen (k := 5) (n := 33) (by omega) (by omega) ?_
  have hP : va_P D vwCl [(a_t, .inr (7, [.int 0, .ref q12, .ref q20, .int 0, .ref q32, .ref q39, .int 0, .int 1, .null])), (q12, .inl (tc 0, 9, .inl (fun _ => 0))), (q20, .inl (tc 0, 9, .inl (fun _ => 0))), (q32, .inl (tc 0, 5, .inl (fun _ => 0))), (q39, .inl (tc 0, 5, .inl (fun _ => 0))), (q55, .inr (2, [.null, .int 0, .null, .null, .null]))] H := hP
  have hD : va_D A [(a_t, .inr (7, [.int 0, .ref q12, .ref q20, .int 0, .ref q32, .ref q39, .int 0, .int 1, .null])), (q12, .inl (tc 0, 9, .inl (fun _ => 0))), (q20, .inl (tc 0, 9, .inl (fun _ => 0))), (q32, .inl (tc 0, 5, .inl (fun _ => 0))), (q39, .inl (tc 0, 5, .inl (fun _ => 0))), (q55, .inr (2, [.null, .int 0, .null, .null, .null]))] := hD
  refine lv_dup hx hb dX7_init_58 rfl ?_
  refine cl_v (wc := [(q55, .inr (2, [.null, .int 0, .null, .null, .null]))]) (wr := [(a_t, .inr (7, [.int 0, .ref q12, .ref q20, .int 0, .ref q32, .ref q39, .int 0, .int 1, .null])), (q12, .inl (tc 0, 9, .inl (fun _ => 0))), (q20, .inl (tc 0, 9, .inl (fun _ => 0))), (q32, .inl (tc 0, 5, .inl (fun _ => 0))), (q39, .inl (tc 0, 5, .inl (fun _ => 0)))]) hP hD hS hA [5] [0, 1, 2, 3, 4] rfl rfl (by decide) (by decide) (va_runIN (As := []) (rest := [.ref q55, .ref a_t]) ⟨hx, hb, hml, hown, hts⟩ (mX2_init (l := l) (D := D) (tc := tc) (sz := H.size) (a_t := q55)) ⟨va_cnB 0 hts ggX7_init_X2_init rfl rfl rfl (hK.2.1 _ (List.mem_of_getElem? (i := 8) rfl)) (hts _ wX7_init_iniX2) (by decide +kernel) ⟨(Nat.le_of_ble_eq_true rfl), (Nat.le_of_ble_eq_true rfl)⟩, rfl, hts _ wX7_init_imX2_init⟩ (pre_S hK hP hD [5] rfl (by decide)) rfl rfl hl.1 rfl (lv_room (Nat.le_of_ble_eq_true rfl)) dX7_init_59 ⟨(Nat.le_of_ble_eq_true rfl), (Nat.le_of_ble_eq_true rfl)⟩) (fun u59 H locs _ hP hD hS => ?_)
  refine W.widen (k := 9) (n := 65) (by omega) (by omega) ?_
  have hP : va_P D vwCl [(a_t, .inr (7, [.int 0, .ref q12, .ref q20, .int 0, .ref q32, .ref q39, .int 0, .int 1, .null])), (q12, .inl (tc 0, 9, .inl (fun _ => 0))), (q20, .inl (tc 0, 9, .inl (fun _ => 0))), (q32, .inl (tc 0, 5, .inl (fun _ => 0))), (q39, .inl (tc 0, 5, .inl (fun _ => 0))), (q55, .inr (2, [.ref (u59 0), .int 0, .ref (u59 1), .ref (u59 2), .ref (u59 3)])), ((u59 0), .inl (tc 0, 5, .inl (fun _ => 0))), ((u59 1), .inl (tc 0, 9, .inl (fun _ => 0))), ((u59 2), .inl (tc 0, 9, .inl (fun _ => 0))), ((u59 3), .inl (tc 0, 9, .inl (fun _ => 0)))] H := hP
  have hD : va_D A [(a_t, .inr (7, [.int 0, .ref q12, .ref q20, .int 0, .ref q32, .ref q39, .int 0, .int 1, .null])), (q12, .inl (tc 0, 9, .inl (fun _ => 0))), (q20, .inl (tc 0, 9, .inl (fun _ => 0))), (q32, .inl (tc 0, 5, .inl (fun _ => 0))), (q39, .inl (tc 0, 5, .inl (fun _ => 0))), (q55, .inr (2, [.ref (u59 0), .int 0, .ref (u59 1), .ref (u59 2), .ref (u59 3)])), ((u59 0), .inl (tc 0, 5, .inl (fun _ => 0))), ((u59 1), .inl (tc 0, 9, .inl (fun _ => 0))), ((u59 2), .inl (tc 0, 9, .inl (fun _ => 0))), ((u59 3), .inl (tc 0, 9, .inl (fun _ => 0)))] := hD
  refine va_putF (D := D) (ci := 7) (v := .ref q55) (ty := .object "SkinInRafters$Hiding") (C := RX7) (T := TX7) (N := 9) hx hb hts iX7_init_X7 tyX7 tyX7_ok nmX7 hown hK.1 hP hD hS 0 rfl rfl 8 (by decide) (hts _ wX7_init_f40) (fun _ h9 => h9) rfl hin rfl (tyX7_ok 8 (by decide)) rfl rfl (Nat.le_of_ble_eq_true rfl) dX7_init_62 (fun H locs hP hD hS => ?_)
  have hP : va_P D vwCl [(a_t, .inr (7, [.int 0, .ref q12, .ref q20, .int 0, .ref q32, .ref q39, .int 0, .int 1, .ref q55])), (q12, .inl (tc 0, 9, .inl (fun _ => 0))), (q20, .inl (tc 0, 9, .inl (fun _ => 0))), (q32, .inl (tc 0, 5, .inl (fun _ => 0))), (q39, .inl (tc 0, 5, .inl (fun _ => 0))), (q55, .inr (2, [.ref (u59 0), .int 0, .ref (u59 1), .ref (u59 2), .ref (u59 3)])), ((u59 0), .inl (tc 0, 5, .inl (fun _ => 0))), ((u59 1), .inl (tc 0, 9, .inl (fun _ => 0))), ((u59 2), .inl (tc 0, 9, .inl (fun _ => 0))), ((u59 3), .inl (tc 0, 9, .inl (fun _ => 0)))] H := hP
  have hD : va_D A [(a_t, .inr (7, [.int 0, .ref q12, .ref q20, .int 0, .ref q32, .ref q39, .int 0, .int 1, .ref q55])), (q12, .inl (tc 0, 9, .inl (fun _ => 0))), (q20, .inl (tc 0, 9, .inl (fun _ => 0))), (q32, .inl (tc 0, 5, .inl (fun _ => 0))), (q39, .inl (tc 0, 5, .inl (fun _ => 0))), (q55, .inr (2, [.ref (u59 0), .int 0, .ref (u59 1), .ref (u59 2), .ref (u59 3)])), ((u59 0), .inl (tc 0, 5, .inl (fun _ => 0))), ((u59 1), .inl (tc 0, 9, .inl (fun _ => 0))), ((u59 2), .inl (tc 0, 9, .inl (fun _ => 0))), ((u59 3), .inl (tc 0, 9, .inl (fun _ => 0)))] := hD
  have hP9 := hP.sub (ws' := [(a_t, .inr (7, [.int 0, .ref q12, .ref q20, .int 0, .ref q32, .ref q39, .int 0, .int 1, .ref q55])), (q12, .inl (tc 0, 9, .inl (fun _ => 0))), (q20, .inl (tc 0, 9, .inl (fun _ => 0))), (q32, .inl (tc 0, 5, .inl (fun _ => 0))), (q39, .inl (tc 0, 5, .inl (fun _ => 0))), (q55, .inr (2, [.ref (u59 0), .int 0, .ref (u59 1), .ref (u59 2), .ref (u59 3)])), ((u59 0), .inl (tc 0, 5, .inl (fun _ => 0))), ((u59 1), .inl (tc 0, 9, .inl (fun _ => 0))), ((u59 2), .inl (tc 0, 9, .inl (fun _ => 0))), ((u59 3), .inl (tc 0, 9, .inl (fun _ => 0)))]) [0, 1, 2, 3, 4, 5, 6, 7, 8, 9] rfl
  have hD9 := hD.sub (ws' := [(a_t, .inr (7, [.int 0, .ref q12, .ref q20, .int 0, .ref q32, .ref q39, .int 0, .int 1, .ref q55])), (q12, .inl (tc 0, 9, .inl (fun _ => 0))), (q20, .inl (tc 0, 9, .inl (fun _ => 0))), (q32, .inl (tc 0, 5, .inl (fun _ => 0))), (q39, .inl (tc 0, 5, .inl (fun _ => 0))), (q55, .inr (2, [.ref (u59 0), .int 0, .ref (u59 1), .ref (u59 2), .ref (u59 3)])), ((u59 0), .inl (tc 0, 5, .inl (fun _ => 0))), ((u59 1), .inl (tc 0, 9, .inl (fun _ => 0))), ((u59 2), .inl (tc 0, 9, .inl (fun _ => 0))), ((u59 3), .inl (tc 0, 9, .inl (fun _ => 0)))]) [0, 1, 2, 3, 4, 5, 6, 7, 8, 9] (by decide) rfl
  exact W.vret hx hb hr (fun t ht hW => ⟨⟨adr [q12, q20, q32, q39, q55, (u59 0), (u59 1), (u59 2), (u59 3)], rfl, trivial, by rw [ht]; exact hP9, hD9⟩, hS.F ht⟩) hS.2.2 dX7_init_65
