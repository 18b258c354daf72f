def tyz (tc : Nat → ClassId) : List (ClassId × FieldType) := [(tc 0, .int), (tc 1, .byte), (tc 2, .boolean), (tc 3, .array .int), (tc 4, .object "SkinInRafters$Hiding")]
def nwL : List (String × Nat × MethodName) := [("SkinInRafters", 9, yX3_init), ("SkinInRafters", 18, yX7_init), ("SkinInRafters", 28, yX1_init), ("SkinInRafters", 42, yX6_init), ("SkinInRafters", 49, yX4_init), ("SkinInRafters", 56, yX0_init), ("SkinInRafters", 63, yX5_init), ("SkinInRafters$Shelf", 15, yX2_init), ("SkinInRafters$Town", 39, yX2_init), ("SkinInRafters$Town", 59, yX8_isDay)]
def nw (U : State) : Prop := (∀ q ∈ nwL, va_Nw (.methodLinkNest q.1 q.2.1 q.2.2 "SkinInRafters") U) ∧ va_AO "SkinInRafters$Hiding" U ∧ va_AOA .int U
def kk (D : va_G) (tc : Nat → ClassId) (U : State) : Prop := va_K D vwCl (tyz tc) U ∧ nw U
theorem va_AOA.moved {ty : FieldType} {u U : State} (hvm : u.vm.Alike U.vm) (h : va_AOA ty u) : va_AOA ty U := over_moved hvm h
theorem nw.warm {s U : State} (hW : s.WarmedH U.vm) (h : nw s) : nw U := ⟨fun q hq => va_Nw.warmM hW (h.1 q hq), h.2.1.moved hW.alike, h.2.2.moved hW.alike⟩
theorem kk.warm {D : va_G} {tc : Nat → ClassId} {s U : State} (hW : s.WarmedH U.vm) (h : kk D tc s) : kk D tc U := ⟨va_K.moved hW.alike h.1, h.2.warm hW⟩
theorem nw.calling {U : State} {g : JFrame} {mk : MethodId} {a : Array Value} (h : nw U) : nw (U.calling g mk a) := ⟨fun q hq => va_Nw.same rfl rfl (h.1 q hq), h.2.1.moved (Vm.Alike.refl U.vm), h.2.2.moved (Vm.Alike.refl U.vm)⟩
theorem kk.calling {D : va_G} {tc : Nat → ClassId} {U : State} {g : JFrame} {mk : MethodId} {a : Array Value} (h : kk D tc U) : kk D tc (U.calling g mk a) := ⟨va_K.moved (u := U) (U := U.calling g mk a) (Vm.Alike.refl U.vm) h.1, h.2.calling⟩
def wpre (D : va_G) (tc : Nat → ClassId) (ws : va_W) (sz : Nat) (U : State) : Prop := U.heap.size = sz ∧ va_P D vwCl ws U.heap ∧ kk D tc U ∧ va_D (fun _ => True) ws
def wpost (D : va_G) (A : Nat → Prop) (ws : va_W) (t : State) : Prop := va_P D vwCl ws t.heap ∧ va_D A ws
theorem wpre_blind {D : va_G} {tc : Nat → ClassId} {ws : va_W} {sz : Nat} {As : List Value} : FrameBlind (va_Pc As (wpre D tc ws sz)) := fun _ _ _ _ q => ⟨q.1, q.2.1, q.2.2.1, q.2.2.2.1.calling, q.2.2.2.2⟩
theorem wpre_at {D : va_G} {tc : Nat → ClassId} {A : Nat → Prop} {ws wc : va_W} {s : State} {H : Heap} {As : List Value} (hK : kk D tc s) (hP : va_P D vwCl ws H) (hD : va_D A ws) (isC : List Nat) (hC : isC.map (fun i => ws[i]?) = wc.map some) (hnC : va_nd isC = true) : ∀ U : State, U.heap = H → s.WarmedH U.vm → va_Pc As (wpre D tc wc H.size) As.toArray U := by
  intro U hU hW
  refine ⟨rfl, by rw [hU], ?_, hK.warm hW, (hD.sub isC hnC hC).weaken (fun _ _ _ _ => trivial)⟩
  rw [hU]
  intro k q hq
  have h1 : (isC.map (fun i => ws[i]?))[k]? = some (some q) := by rw [hC, List.getElem?_map, hq]; rfl
  rw [List.getElem?_map] at h1
  cases hi : isC[k]? with
  | none => rw [hi] at h1; cases h1
  | some i => rw [hi] at h1; exact hP i q (Option.some.inj h1)
theorem pre_V {D : va_G} {tc : Nat → ClassId} {A : Nat → Prop} {ws wc : va_W} {s : State} {H : Heap} {As : List Value} {b : Nat} (hK : kk D tc s) (hP : va_P D vwCl ws H) (hD : va_D A ws) (isC : List Nat) (hC : isC.map (fun i => ws[i]?) = wc.map some) (hnC : va_nd isC = true) (q0 ci : Nat) {q : vw_C} {fs : List Value} (hc : vwCl[ci]? = some q) (he : ws[q0]? = some (b, .inr (ci, fs))) : PreV s H q.1 b (va_Pc (.ref b :: As) (wpre D tc wc H.size)) As := ⟨wpre_blind, va_recv hK.1 hP hc he, wpre_at hK hP hD isC hC hnC⟩
theorem pre_S {D : va_G} {tc : Nat → ClassId} {A : Nat → Prop} {ws wc : va_W} {s : State} {H : Heap} {As : List Value} (hK : kk D tc s) (hP : va_P D vwCl ws H) (hD : va_D A ws) (isC : List Nat) (hC : isC.map (fun i => ws[i]?) = wc.map some) (hnC : va_nd isC = true) : PreS s H (va_Pc As (wpre D tc wc H.size)) As := ⟨wpre_blind, wpre_at hK hP hD isC hC hnC⟩
def rowf (l : List Nat) : Nat → Option Nat := fun i => l[i]?
def adr (l : List Nat) : Nat → Nat := fun i => l.getD i 0
def updR (B : Nat → Nat → Int32) (j : Nat) (f : Nat → Int32) : Nat → Nat → Int32 := fun k => if k = j then f else B k
def nbool (r : Int32) : Prop := narrow .boolean (.int r) = .int r
theorem nbool_0 : nbool 0 := rfl
theorem nbool_1 : nbool 1 := rfl
theorem sw_cases (n : Nat) (hn : n < 2 ^ 31) (x : Int32) : (x.toInt < 0 ∨ (n : Int) - 1 < x.toInt) ∨ ∃ j : Nat, j < n ∧ x = nI j := by
  by_cases h : x.toInt < 0 ∨ (n : Int) - 1 < x.toInt
  · exact Or.inl h
  · refine Or.inr ⟨x.toInt.toNat, by omega, ?_⟩
    apply Int32.toInt_inj.mp
    rw [nI_toInt (by omega)]
    omega
/-- the context of a walk -/
def cx (p : Program) (s : State) (m : MethodId) (args : Array Value) (c : Code) (own : String) (cc : ByteArray) (nL : Nat) (ws : List Cond) (D : va_G) (tc : Nat → ClassId) (A : Nat → Prop) : Prop :=
  p.tables.exec = Jvm.exec ∧ c.code = cc ∧ c.maxLocals = nL ∧ s.vm.findClass own = some m.cls ∧ (∀ w ∈ ws, w.before args s = true) ∧ kk D tc s ∧ (∀ q : Nat, s.heap.size ≤ q → A q)
section CL
variable {p : Program} {l : Launch} {e : Env} {R : Room} {s : State} {m : MethodId} {args : Array Value} {below : List Frame} {meth : Method} {c : Code} {H : Heap} {locs : List Loc} {cells slots : Nat} {Q : State → Prop}
variable {cc : ByteArray} {pc : Nat} {ls : Array Slot} {rest st0 : List Value} {D : va_G} {tc : Nat → ClassId} {A : Nat → Prop} {a : Array Value} {ws wc wr : va_W} {mc ms : Nat}
theorem va_aldA {cl : List vw_C} {tys : List (ClassId × FieldType)} (hexec : p.tables.exec = Jvm.exec) (hb : c.code = cc) (hK : va_K D cl tys s) (hP : va_P D cl ws H) (q0 t0 : Nat) {cA : ClassId} {a : Nat} {n : Nat} {f : Nat → Option Nat} (ha : ws[q0]? = some (a, .inl (cA, n, .inr (.inr (.inr (.inr f)))))) (ht : tys[t0]? = some (cA, .array .int)) {i : Int32} (hin : vp_in i n) {v : Value} (hv : va_rf (f i.toNatClampNeg) = v) (hdg : decode cc pc = .ok (.aaload, 1))
    (kk : W p l e R s m args below meth c H locs cells slots Q (F0 m (pc + 1) ls (v :: rest))) : W p l e R s m args below meth c H locs cells slots Q (F0 m pc ls (.int i :: .ref a :: rest)) := by
  subst hv
  have hlt : i.toNatClampNeg < n := Nat.not_le.mp fun q => hin (Or.inr q)
  exact W.aald (v := va_rf (f i.toNatClampNeg)) (ty := .array .int) hexec hb (hP q0 _ ha) ((hK.2 t0 _ ht).1 n (fun j => va_rf (f j))) rfl (fun q => by cases q) (by show ¬ (i < 0 ∨ (arrV _ _ _).slots.size ≤ _); rw [arrV_size]; exact hin) (by show (arrV _ _ _).slots[_]? = _; rw [arrV_read _ _ hlt]) rfl rfl hdg kk
theorem cl_i {S : Type} {post : Int32 → S → Prop} {w1 : S → va_W} (hP : va_P D vwCl ws H) (hD : va_D A ws) (hS : va_S A s.heap H locs) (hA : ∀ q, s.heap.size ≤ q → A q) (isC isR : List Nat) (hC : isC.map (fun i => ws[i]?) = wc.map some) (hR : isR.map (fun i => ws[i]?) = wr.map some) (hn : va_nd isR = true) (hdis : ∀ i ∈ isR, i ∉ isC)
    (hr : va_Run p l e R s m args below meth c H locs cells slots mc ms (F0 m pc ls st0) rest (va_Qi post (fun u => wpost D (va_A wc H.size) (w1 u)) (va_A wc H.size) a) (va_A wc H.size))
    (k : ∀ (r : Int32) (u : S) (H1 : Heap) (locs1 : List Loc), post r u → va_P D vwCl (wr ++ w1 u) H1 → va_D A (wr ++ w1 u) → va_S A s.heap H1 locs1 → W p l e R s m args below meth c H1 locs1 (cells + mc) (slots + ms) Q (F0 m (pc + 3) ls (.int r :: rest))) : W p l e R s m args below meth c H locs cells slots Q (F0 m pc ls st0) := by
  have hF := va_free hD hS hA isC hC
  refine va_calli hr hS (fun q _ h => hF q h) hF (fun r u t H1 locs1 ht hvm hw hB hz1 hk1 hS => ?_)
  obtain ⟨hP1, hD1⟩ := hB
  rw [ht] at hP1
  obtain ⟨hP2, hD2⟩ := va_join hP hD isC isR hC hR hn hdis hk1 hF hP1 hD1
  exact k r u H1 locs1 hw hP2 hD2 hS
theorem cl_v {S : Type} {post : S → Prop} {w1 : S → va_W} (hP : va_P D vwCl ws H) (hD : va_D A ws) (hS : va_S A s.heap H locs) (hA : ∀ q, s.heap.size ≤ q → A q) (isC isR : List Nat) (hC : isC.map (fun i => ws[i]?) = wc.map some) (hR : isR.map (fun i => ws[i]?) = wr.map some) (hn : va_nd isR = true) (hdis : ∀ i ∈ isR, i ∉ isC)
    (hr : va_Run p l e R s m args below meth c H locs cells slots mc ms (F0 m pc ls st0) rest (va_Qv post (fun u => wpost D (va_A wc H.size) (w1 u)) (va_A wc H.size) a) (va_A wc H.size))
    (k : ∀ (u : S) (H1 : Heap) (locs1 : List Loc), post u → va_P D vwCl (wr ++ w1 u) H1 → va_D A (wr ++ w1 u) → va_S A s.heap H1 locs1 → W p l e R s m args below meth c H1 locs1 (cells + mc) (slots + ms) Q (F0 m (pc + 3) ls rest)) : W p l e R s m args below meth c H locs cells slots Q (F0 m pc ls st0) := by
  have hF := va_free hD hS hA isC hC
  refine va_callv hr hS (fun q _ h => hF q h) hF (fun u t H1 locs1 ht hvm hw hB hz1 hk1 hS => ?_)
  obtain ⟨hP1, hD1⟩ := hB
  rw [ht] at hP1
  obtain ⟨hP2, hD2⟩ := va_join hP hD isC isR hC hR hn hdis hk1 hF hP1 hD1
  exact k u H1 locs1 hw hP2 hD2 hS
end CL
def it1 {T1 : Type} (F : (T1 → Prop) → T1 → Prop) : Nat → T1 → Prop
  | 0 => fun _ => False
  | k + 1 => F (it1 F k)
theorem it1_rule {T1 : Type} {F : (T1 → Prop) → T1 → Prop} (I : T1 → Prop) (μ : T1 → Nat) (h : ∀ (rec : T1 → Prop) (a1 : T1), I a1 → (∀ (b1 : T1), I b1 → μ b1 < μ a1 → rec b1) → F rec a1) (a1 : T1) (h0 : I a1) : ∃ k, it1 F k a1 := by
  have key : ∀ (k : Nat) (a1 : T1), I a1 → μ a1 < k → it1 F k a1 := by
    intro k
    induction k with
    | zero => intro a1 _ hm; exact absurd hm (Nat.not_lt_zero _)
    | succ k ih => intro a1 hI hm; exact h (it1 F k) a1 hI (fun b1 hI2 hm2 => ih b1 hI2 (by omega))
  exact ⟨μ a1 + 1, key _ a1 h0 (Nat.lt_succ_self _)⟩
def it2 {T1 T2 : Type} (F : (T1 → T2 → Prop) → T1 → T2 → Prop) : Nat → T1 → T2 → Prop
  | 0 => fun _ _ => False
  | k + 1 => F (it2 F k)
theorem it2_rule {T1 T2 : Type} {F : (T1 → T2 → Prop) → T1 → T2 → Prop} (I : T1 → T2 → Prop) (μ : T1 → T2 → Nat) (h : ∀ (rec : T1 → T2 → Prop) (a1 : T1) (a2 : T2), I a1 a2 → (∀ (b1 : T1) (b2 : T2), I b1 b2 → μ b1 b2 < μ a1 a2 → rec b1 b2) → F rec a1 a2) (a1 : T1) (a2 : T2) (h0 : I a1 a2) : ∃ k, it2 F k a1 a2 := by
  have key : ∀ (k : Nat) (a1 : T1) (a2 : T2), I a1 a2 → μ a1 a2 < k → it2 F k a1 a2 := by
    intro k
    induction k with
    | zero => intro a1 a2 _ hm; exact absurd hm (Nat.not_lt_zero _)
    | succ k ih => intro a1 a2 hI hm; exact h (it2 F k) a1 a2 hI (fun b1 b2 hI2 hm2 => ih b1 b2 hI2 (by omega))
  exact ⟨μ a1 a2 + 1, key _ a1 a2 h0 (Nat.lt_succ_self _)⟩
def it3 {T1 T2 T3 : Type} (F : (T1 → T2 → T3 → Prop) → T1 → T2 → T3 → Prop) : Nat → T1 → T2 → T3 → Prop
  | 0 => fun _ _ _ => False
  | k + 1 => F (it3 F k)
theorem it3_rule {T1 T2 T3 : Type} {F : (T1 → T2 → T3 → Prop) → T1 → T2 → T3 → Prop} (I : T1 → T2 → T3 → Prop) (μ : T1 → T2 → T3 → Nat) (h : ∀ (rec : T1 → T2 → T3 → Prop) (a1 : T1) (a2 : T2) (a3 : T3), I a1 a2 a3 → (∀ (b1 : T1) (b2 : T2) (b3 : T3), I b1 b2 b3 → μ b1 b2 b3 < μ a1 a2 a3 → rec b1 b2 b3) → F rec a1 a2 a3) (a1 : T1) (a2 : T2) (a3 : T3) (h0 : I a1 a2 a3) : ∃ k, it3 F k a1 a2 a3 := by
  have key : ∀ (k : Nat) (a1 : T1) (a2 : T2) (a3 : T3), I a1 a2 a3 → μ a1 a2 a3 < k → it3 F k a1 a2 a3 := by
    intro k
    induction k with
    | zero => intro a1 a2 a3 _ hm; exact absurd hm (Nat.not_lt_zero _)
    | succ k ih => intro a1 a2 a3 hI hm; exact h (it3 F k) a1 a2 a3 hI (fun b1 b2 b3 hI2 hm2 => ih b1 b2 b3 hI2 (by omega))
  exact ⟨μ a1 a2 a3 + 1, key _ a1 a2 a3 h0 (Nat.lt_succ_self _)⟩
def it4 {T1 T2 T3 T4 : Type} (F : (T1 → T2 → T3 → T4 → Prop) → T1 → T2 → T3 → T4 → Prop) : Nat → T1 → T2 → T3 → T4 → Prop
  | 0 => fun _ _ _ _ => False
  | k + 1 => F (it4 F k)
theorem it4_rule {T1 T2 T3 T4 : Type} {F : (T1 → T2 → T3 → T4 → Prop) → T1 → T2 → T3 → T4 → Prop} (I : T1 → T2 → T3 → T4 → Prop) (μ : T1 → T2 → T3 → T4 → Nat) (h : ∀ (rec : T1 → T2 → T3 → T4 → Prop) (a1 : T1) (a2 : T2) (a3 : T3) (a4 : T4), I a1 a2 a3 a4 → (∀ (b1 : T1) (b2 : T2) (b3 : T3) (b4 : T4), I b1 b2 b3 b4 → μ b1 b2 b3 b4 < μ a1 a2 a3 a4 → rec b1 b2 b3 b4) → F rec a1 a2 a3 a4) (a1 : T1) (a2 : T2) (a3 : T3) (a4 : T4) (h0 : I a1 a2 a3 a4) : ∃ k, it4 F k a1 a2 a3 a4 := by
  have key : ∀ (k : Nat) (a1 : T1) (a2 : T2) (a3 : T3) (a4 : T4), I a1 a2 a3 a4 → μ a1 a2 a3 a4 < k → it4 F k a1 a2 a3 a4 := by
    intro k
    induction k with
    | zero => intro a1 a2 a3 a4 _ hm; exact absurd hm (Nat.not_lt_zero _)
    | succ k ih => intro a1 a2 a3 a4 hI hm; exact h (it4 F k) a1 a2 a3 a4 hI (fun b1 b2 b3 b4 hI2 hm2 => ih b1 b2 b3 b4 hI2 (by omega))
  exact ⟨μ a1 a2 a3 a4 + 1, key _ a1 a2 a3 a4 h0 (Nat.lt_succ_self _)⟩
def it5 {T1 T2 T3 T4 T5 : Type} (F : (T1 → T2 → T3 → T4 → T5 → Prop) → T1 → T2 → T3 → T4 → T5 → Prop) : Nat → T1 → T2 → T3 → T4 → T5 → Prop
  | 0 => fun _ _ _ _ _ => False
  | k + 1 => F (it5 F k)
theorem it5_rule {T1 T2 T3 T4 T5 : Type} {F : (T1 → T2 → T3 → T4 → T5 → Prop) → T1 → T2 → T3 → T4 → T5 → Prop} (I : T1 → T2 → T3 → T4 → T5 → Prop) (μ : T1 → T2 → T3 → T4 → T5 → Nat) (h : ∀ (rec : T1 → T2 → T3 → T4 → T5 → Prop) (a1 : T1) (a2 : T2) (a3 : T3) (a4 : T4) (a5 : T5), I a1 a2 a3 a4 a5 → (∀ (b1 : T1) (b2 : T2) (b3 : T3) (b4 : T4) (b5 : T5), I b1 b2 b3 b4 b5 → μ b1 b2 b3 b4 b5 < μ a1 a2 a3 a4 a5 → rec b1 b2 b3 b4 b5) → F rec a1 a2 a3 a4 a5) (a1 : T1) (a2 : T2) (a3 : T3) (a4 : T4) (a5 : T5) (h0 : I a1 a2 a3 a4 a5) : ∃ k, it5 F k a1 a2 a3 a4 a5 := by
  have key : ∀ (k : Nat) (a1 : T1) (a2 : T2) (a3 : T3) (a4 : T4) (a5 : T5), I a1 a2 a3 a4 a5 → μ a1 a2 a3 a4 a5 < k → it5 F k a1 a2 a3 a4 a5 := by
    intro k
    induction k with
    | zero => intro a1 a2 a3 a4 a5 _ hm; exact absurd hm (Nat.not_lt_zero _)
    | succ k ih => intro a1 a2 a3 a4 a5 hI hm; exact h (it5 F k) a1 a2 a3 a4 a5 hI (fun b1 b2 b3 b4 b5 hI2 hm2 => ih b1 b2 b3 b4 b5 hI2 (by omega))
  exact ⟨μ a1 a2 a3 a4 a5 + 1, key _ a1 a2 a3 a4 a5 h0 (Nat.lt_succ_self _)⟩
def it6 {T1 T2 T3 T4 T5 T6 : Type} (F : (T1 → T2 → T3 → T4 → T5 → T6 → Prop) → T1 → T2 → T3 → T4 → T5 → T6 → Prop) : Nat → T1 → T2 → T3 → T4 → T5 → T6 → Prop
  | 0 => fun _ _ _ _ _ _ => False
  | k + 1 => F (it6 F k)
theorem it6_rule {T1 T2 T3 T4 T5 T6 : Type} {F : (T1 → T2 → T3 → T4 → T5 → T6 → Prop) → T1 → T2 → T3 → T4 → T5 → T6 → Prop} (I : T1 → T2 → T3 → T4 → T5 → T6 → Prop) (μ : T1 → T2 → T3 → T4 → T5 → T6 → Nat) (h : ∀ (rec : T1 → T2 → T3 → T4 → T5 → T6 → Prop) (a1 : T1) (a2 : T2) (a3 : T3) (a4 : T4) (a5 : T5) (a6 : T6), I a1 a2 a3 a4 a5 a6 → (∀ (b1 : T1) (b2 : T2) (b3 : T3) (b4 : T4) (b5 : T5) (b6 : T6), I b1 b2 b3 b4 b5 b6 → μ b1 b2 b3 b4 b5 b6 < μ a1 a2 a3 a4 a5 a6 → rec b1 b2 b3 b4 b5 b6) → F rec a1 a2 a3 a4 a5 a6) (a1 : T1) (a2 : T2) (a3 : T3) (a4 : T4) (a5 : T5) (a6 : T6) (h0 : I a1 a2 a3 a4 a5 a6) : ∃ k, it6 F k a1 a2 a3 a4 a5 a6 := by
  have key : ∀ (k : Nat) (a1 : T1) (a2 : T2) (a3 : T3) (a4 : T4) (a5 : T5) (a6 : T6), I a1 a2 a3 a4 a5 a6 → μ a1 a2 a3 a4 a5 a6 < k → it6 F k a1 a2 a3 a4 a5 a6 := by
    intro k
    induction k with
    | zero => intro a1 a2 a3 a4 a5 a6 _ hm; exact absurd hm (Nat.not_lt_zero _)
    | succ k ih => intro a1 a2 a3 a4 a5 a6 hI hm; exact h (it6 F k) a1 a2 a3 a4 a5 a6 hI (fun b1 b2 b3 b4 b5 b6 hI2 hm2 => ih b1 b2 b3 b4 b5 b6 hI2 (by omega))
  exact ⟨μ a1 a2 a3 a4 a5 a6 + 1, key _ a1 a2 a3 a4 a5 a6 h0 (Nat.lt_succ_self _)⟩
def it7 {T1 T2 T3 T4 T5 T6 T7 : Type} (F : (T1 → T2 → T3 → T4 → T5 → T6 → T7 → Prop) → T1 → T2 → T3 → T4 → T5 → T6 → T7 → Prop) : Nat → T1 → T2 → T3 → T4 → T5 → T6 → T7 → Prop
  | 0 => fun _ _ _ _ _ _ _ => False
  | k + 1 => F (it7 F k)
theorem it7_rule {T1 T2 T3 T4 T5 T6 T7 : Type} {F : (T1 → T2 → T3 → T4 → T5 → T6 → T7 → Prop) → T1 → T2 → T3 → T4 → T5 → T6 → T7 → Prop} (I : T1 → T2 → T3 → T4 → T5 → T6 → T7 → Prop) (μ : T1 → T2 → T3 → T4 → T5 → T6 → T7 → Nat) (h : ∀ (rec : T1 → T2 → T3 → T4 → T5 → T6 → T7 → Prop) (a1 : T1) (a2 : T2) (a3 : T3) (a4 : T4) (a5 : T5) (a6 : T6) (a7 : T7), I a1 a2 a3 a4 a5 a6 a7 → (∀ (b1 : T1) (b2 : T2) (b3 : T3) (b4 : T4) (b5 : T5) (b6 : T6) (b7 : T7), I b1 b2 b3 b4 b5 b6 b7 → μ b1 b2 b3 b4 b5 b6 b7 < μ a1 a2 a3 a4 a5 a6 a7 → rec b1 b2 b3 b4 b5 b6 b7) → F rec a1 a2 a3 a4 a5 a6 a7) (a1 : T1) (a2 : T2) (a3 : T3) (a4 : T4) (a5 : T5) (a6 : T6) (a7 : T7) (h0 : I a1 a2 a3 a4 a5 a6 a7) : ∃ k, it7 F k a1 a2 a3 a4 a5 a6 a7 := by
  have key : ∀ (k : Nat) (a1 : T1) (a2 : T2) (a3 : T3) (a4 : T4) (a5 : T5) (a6 : T6) (a7 : T7), I a1 a2 a3 a4 a5 a6 a7 → μ a1 a2 a3 a4 a5 a6 a7 < k → it7 F k a1 a2 a3 a4 a5 a6 a7 := by
    intro k
    induction k with
    | zero => intro a1 a2 a3 a4 a5 a6 a7 _ hm; exact absurd hm (Nat.not_lt_zero _)
    | succ k ih => intro a1 a2 a3 a4 a5 a6 a7 hI hm; exact h (it7 F k) a1 a2 a3 a4 a5 a6 a7 hI (fun b1 b2 b3 b4 b5 b6 b7 hI2 hm2 => ih b1 b2 b3 b4 b5 b6 b7 hI2 (by omega))
  exact ⟨μ a1 a2 a3 a4 a5 a6 a7 + 1, key _ a1 a2 a3 a4 a5 a6 a7 h0 (Nat.lt_succ_self _)⟩
def it8 {T1 T2 T3 T4 T5 T6 T7 T8 : Type} (F : (T1 → T2 → T3 → T4 → T5 → T6 → T7 → T8 → Prop) → T1 → T2 → T3 → T4 → T5 → T6 → T7 → T8 → Prop) : Nat → T1 → T2 → T3 → T4 → T5 → T6 → T7 → T8 → Prop
  | 0 => fun _ _ _ _ _ _ _ _ => False
  | k + 1 => F (it8 F k)
theorem it8_rule {T1 T2 T3 T4 T5 T6 T7 T8 : Type} {F : (T1 → T2 → T3 → T4 → T5 → T6 → T7 → T8 → Prop) → T1 → T2 → T3 → T4 → T5 → T6 → T7 → T8 → Prop} (I : T1 → T2 → T3 → T4 → T5 → T6 → T7 → T8 → Prop) (μ : T1 → T2 → T3 → T4 → T5 → T6 → T7 → T8 → Nat) (h : ∀ (rec : T1 → T2 → T3 → T4 → T5 → T6 → T7 → T8 → Prop) (a1 : T1) (a2 : T2) (a3 : T3) (a4 : T4) (a5 : T5) (a6 : T6) (a7 : T7) (a8 : T8), I a1 a2 a3 a4 a5 a6 a7 a8 → (∀ (b1 : T1) (b2 : T2) (b3 : T3) (b4 : T4) (b5 : T5) (b6 : T6) (b7 : T7) (b8 : T8), I b1 b2 b3 b4 b5 b6 b7 b8 → μ b1 b2 b3 b4 b5 b6 b7 b8 < μ a1 a2 a3 a4 a5 a6 a7 a8 → rec b1 b2 b3 b4 b5 b6 b7 b8) → F rec a1 a2 a3 a4 a5 a6 a7 a8) (a1 : T1) (a2 : T2) (a3 : T3) (a4 : T4) (a5 : T5) (a6 : T6) (a7 : T7) (a8 : T8) (h0 : I a1 a2 a3 a4 a5 a6 a7 a8) : ∃ k, it8 F k a1 a2 a3 a4 a5 a6 a7 a8 := by
  have key : ∀ (k : Nat) (a1 : T1) (a2 : T2) (a3 : T3) (a4 : T4) (a5 : T5) (a6 : T6) (a7 : T7) (a8 : T8), I a1 a2 a3 a4 a5 a6 a7 a8 → μ a1 a2 a3 a4 a5 a6 a7 a8 < k → it8 F k a1 a2 a3 a4 a5 a6 a7 a8 := by
    intro k
    induction k with
    | zero => intro a1 a2 a3 a4 a5 a6 a7 a8 _ hm; exact absurd hm (Nat.not_lt_zero _)
    | succ k ih => intro a1 a2 a3 a4 a5 a6 a7 a8 hI hm; exact h (it8 F k) a1 a2 a3 a4 a5 a6 a7 a8 hI (fun b1 b2 b3 b4 b5 b6 b7 b8 hI2 hm2 => ih b1 b2 b3 b4 b5 b6 b7 b8 hI2 (by omega))
  exact ⟨μ a1 a2 a3 a4 a5 a6 a7 a8 + 1, key _ a1 a2 a3 a4 a5 a6 a7 a8 h0 (Nat.lt_succ_self _)⟩
def it9 {T1 T2 T3 T4 T5 T6 T7 T8 T9 : Type} (F : (T1 → T2 → T3 → T4 → T5 → T6 → T7 → T8 → T9 → Prop) → T1 → T2 → T3 → T4 → T5 → T6 → T7 → T8 → T9 → Prop) : Nat → T1 → T2 → T3 → T4 → T5 → T6 → T7 → T8 → T9 → Prop
  | 0 => fun _ _ _ _ _ _ _ _ _ => False
  | k + 1 => F (it9 F k)
theorem it9_rule {T1 T2 T3 T4 T5 T6 T7 T8 T9 : Type} {F : (T1 → T2 → T3 → T4 → T5 → T6 → T7 → T8 → T9 → Prop) → T1 → T2 → T3 → T4 → T5 → T6 → T7 → T8 → T9 → Prop} (I : T1 → T2 → T3 → T4 → T5 → T6 → T7 → T8 → T9 → Prop) (μ : T1 → T2 → T3 → T4 → T5 → T6 → T7 → T8 → T9 → Nat) (h : ∀ (rec : T1 → T2 → T3 → T4 → T5 → T6 → T7 → T8 → T9 → Prop) (a1 : T1) (a2 : T2) (a3 : T3) (a4 : T4) (a5 : T5) (a6 : T6) (a7 : T7) (a8 : T8) (a9 : T9), I a1 a2 a3 a4 a5 a6 a7 a8 a9 → (∀ (b1 : T1) (b2 : T2) (b3 : T3) (b4 : T4) (b5 : T5) (b6 : T6) (b7 : T7) (b8 : T8) (b9 : T9), I b1 b2 b3 b4 b5 b6 b7 b8 b9 → μ b1 b2 b3 b4 b5 b6 b7 b8 b9 < μ a1 a2 a3 a4 a5 a6 a7 a8 a9 → rec b1 b2 b3 b4 b5 b6 b7 b8 b9) → F rec a1 a2 a3 a4 a5 a6 a7 a8 a9) (a1 : T1) (a2 : T2) (a3 : T3) (a4 : T4) (a5 : T5) (a6 : T6) (a7 : T7) (a8 : T8) (a9 : T9) (h0 : I a1 a2 a3 a4 a5 a6 a7 a8 a9) : ∃ k, it9 F k a1 a2 a3 a4 a5 a6 a7 a8 a9 := by
  have key : ∀ (k : Nat) (a1 : T1) (a2 : T2) (a3 : T3) (a4 : T4) (a5 : T5) (a6 : T6) (a7 : T7) (a8 : T8) (a9 : T9), I a1 a2 a3 a4 a5 a6 a7 a8 a9 → μ a1 a2 a3 a4 a5 a6 a7 a8 a9 < k → it9 F k a1 a2 a3 a4 a5 a6 a7 a8 a9 := by
    intro k
    induction k with
    | zero => intro a1 a2 a3 a4 a5 a6 a7 a8 a9 _ hm; exact absurd hm (Nat.not_lt_zero _)
    | succ k ih => intro a1 a2 a3 a4 a5 a6 a7 a8 a9 hI hm; exact h (it9 F k) a1 a2 a3 a4 a5 a6 a7 a8 a9 hI (fun b1 b2 b3 b4 b5 b6 b7 b8 b9 hI2 hm2 => ih b1 b2 b3 b4 b5 b6 b7 b8 b9 hI2 (by omega))
  exact ⟨μ a1 a2 a3 a4 a5 a6 a7 a8 a9 + 1, key _ a1 a2 a3 a4 a5 a6 a7 a8 a9 h0 (Nat.lt_succ_self _)⟩
def it10 {T1 T2 T3 T4 T5 T6 T7 T8 T9 T10 : Type} (F : (T1 → T2 → T3 → T4 → T5 → T6 → T7 → T8 → T9 → T10 → Prop) → T1 → T2 → T3 → T4 → T5 → T6 → T7 → T8 → T9 → T10 → Prop) : Nat → T1 → T2 → T3 → T4 → T5 → T6 → T7 → T8 → T9 → T10 → Prop
  | 0 => fun _ _ _ _ _ _ _ _ _ _ => False
  | k + 1 => F (it10 F k)
theorem it10_rule {T1 T2 T3 T4 T5 T6 T7 T8 T9 T10 : Type} {F : (T1 → T2 → T3 → T4 → T5 → T6 → T7 → T8 → T9 → T10 → Prop) → T1 → T2 → T3 → T4 → T5 → T6 → T7 → T8 → T9 → T10 → Prop} (I : T1 → T2 → T3 → T4 → T5 → T6 → T7 → T8 → T9 → T10 → Prop) (μ : T1 → T2 → T3 → T4 → T5 → T6 → T7 → T8 → T9 → T10 → Nat) (h : ∀ (rec : T1 → T2 → T3 → T4 → T5 → T6 → T7 → T8 → T9 → T10 → Prop) (a1 : T1) (a2 : T2) (a3 : T3) (a4 : T4) (a5 : T5) (a6 : T6) (a7 : T7) (a8 : T8) (a9 : T9) (a10 : T10), I a1 a2 a3 a4 a5 a6 a7 a8 a9 a10 → (∀ (b1 : T1) (b2 : T2) (b3 : T3) (b4 : T4) (b5 : T5) (b6 : T6) (b7 : T7) (b8 : T8) (b9 : T9) (b10 : T10), I b1 b2 b3 b4 b5 b6 b7 b8 b9 b10 → μ b1 b2 b3 b4 b5 b6 b7 b8 b9 b10 < μ a1 a2 a3 a4 a5 a6 a7 a8 a9 a10 → rec b1 b2 b3 b4 b5 b6 b7 b8 b9 b10) → F rec a1 a2 a3 a4 a5 a6 a7 a8 a9 a10) (a1 : T1) (a2 : T2) (a3 : T3) (a4 : T4) (a5 : T5) (a6 : T6) (a7 : T7) (a8 : T8) (a9 : T9) (a10 : T10) (h0 : I a1 a2 a3 a4 a5 a6 a7 a8 a9 a10) : ∃ k, it10 F k a1 a2 a3 a4 a5 a6 a7 a8 a9 a10 := by
  have key : ∀ (k : Nat) (a1 : T1) (a2 : T2) (a3 : T3) (a4 : T4) (a5 : T5) (a6 : T6) (a7 : T7) (a8 : T8) (a9 : T9) (a10 : T10), I a1 a2 a3 a4 a5 a6 a7 a8 a9 a10 → μ a1 a2 a3 a4 a5 a6 a7 a8 a9 a10 < k → it10 F k a1 a2 a3 a4 a5 a6 a7 a8 a9 a10 := by
    intro k
    induction k with
    | zero => intro a1 a2 a3 a4 a5 a6 a7 a8 a9 a10 _ hm; exact absurd hm (Nat.not_lt_zero _)
    | succ k ih => intro a1 a2 a3 a4 a5 a6 a7 a8 a9 a10 hI hm; exact h (it10 F k) a1 a2 a3 a4 a5 a6 a7 a8 a9 a10 hI (fun b1 b2 b3 b4 b5 b6 b7 b8 b9 b10 hI2 hm2 => ih b1 b2 b3 b4 b5 b6 b7 b8 b9 b10 hI2 (by omega))
  exact ⟨μ a1 a2 a3 a4 a5 a6 a7 a8 a9 a10 + 1, key _ a1 a2 a3 a4 a5 a6 a7 a8 a9 a10 h0 (Nat.lt_succ_self _)⟩
def it11 {T1 T2 T3 T4 T5 T6 T7 T8 T9 T10 T11 : Type} (F : (T1 → T2 → T3 → T4 → T5 → T6 → T7 → T8 → T9 → T10 → T11 → Prop) → T1 → T2 → T3 → T4 → T5 → T6 → T7 → T8 → T9 → T10 → T11 → Prop) : Nat → T1 → T2 → T3 → T4 → T5 → T6 → T7 → T8 → T9 → T10 → T11 → Prop
  | 0 => fun _ _ _ _ _ _ _ _ _ _ _ => False
  | k + 1 => F (it11 F k)
theorem it11_rule {T1 T2 T3 T4 T5 T6 T7 T8 T9 T10 T11 : Type} {F : (T1 → T2 → T3 → T4 → T5 → T6 → T7 → T8 → T9 → T10 → T11 → Prop) → T1 → T2 → T3 → T4 → T5 → T6 → T7 → T8 → T9 → T10 → T11 → Prop} (I : T1 → T2 → T3 → T4 → T5 → T6 → T7 → T8 → T9 → T10 → T11 → Prop) (μ : T1 → T2 → T3 → T4 → T5 → T6 → T7 → T8 → T9 → T10 → T11 → Nat) (h : ∀ (rec : T1 → T2 → T3 → T4 → T5 → T6 → T7 → T8 → T9 → T10 → T11 → Prop) (a1 : T1) (a2 : T2) (a3 : T3) (a4 : T4) (a5 : T5) (a6 : T6) (a7 : T7) (a8 : T8) (a9 : T9) (a10 : T10) (a11 : T11), I a1 a2 a3 a4 a5 a6 a7 a8 a9 a10 a11 → (∀ (b1 : T1) (b2 : T2) (b3 : T3) (b4 : T4) (b5 : T5) (b6 : T6) (b7 : T7) (b8 : T8) (b9 : T9) (b10 : T10) (b11 : T11), I b1 b2 b3 b4 b5 b6 b7 b8 b9 b10 b11 → μ b1 b2 b3 b4 b5 b6 b7 b8 b9 b10 b11 < μ a1 a2 a3 a4 a5 a6 a7 a8 a9 a10 a11 → rec b1 b2 b3 b4 b5 b6 b7 b8 b9 b10 b11) → F rec a1 a2 a3 a4 a5 a6 a7 a8 a9 a10 a11) (a1 : T1) (a2 : T2) (a3 : T3) (a4 : T4) (a5 : T5) (a6 : T6) (a7 : T7) (a8 : T8) (a9 : T9) (a10 : T10) (a11 : T11) (h0 : I a1 a2 a3 a4 a5 a6 a7 a8 a9 a10 a11) : ∃ k, it11 F k a1 a2 a3 a4 a5 a6 a7 a8 a9 a10 a11 := by
  have key : ∀ (k : Nat) (a1 : T1) (a2 : T2) (a3 : T3) (a4 : T4) (a5 : T5) (a6 : T6) (a7 : T7) (a8 : T8) (a9 : T9) (a10 : T10) (a11 : T11), I a1 a2 a3 a4 a5 a6 a7 a8 a9 a10 a11 → μ a1 a2 a3 a4 a5 a6 a7 a8 a9 a10 a11 < k → it11 F k a1 a2 a3 a4 a5 a6 a7 a8 a9 a10 a11 := by
    intro k
    induction k with
    | zero => intro a1 a2 a3 a4 a5 a6 a7 a8 a9 a10 a11 _ hm; exact absurd hm (Nat.not_lt_zero _)
    | succ k ih => intro a1 a2 a3 a4 a5 a6 a7 a8 a9 a10 a11 hI hm; exact h (it11 F k) a1 a2 a3 a4 a5 a6 a7 a8 a9 a10 a11 hI (fun b1 b2 b3 b4 b5 b6 b7 b8 b9 b10 b11 hI2 hm2 => ih b1 b2 b3 b4 b5 b6 b7 b8 b9 b10 b11 hI2 (by omega))
  exact ⟨μ a1 a2 a3 a4 a5 a6 a7 a8 a9 a10 a11 + 1, key _ a1 a2 a3 a4 a5 a6 a7 a8 a9 a10 a11 h0 (Nat.lt_succ_self _)⟩
def it12 {T1 T2 T3 T4 T5 T6 T7 T8 T9 T10 T11 T12 : Type} (F : (T1 → T2 → T3 → T4 → T5 → T6 → T7 → T8 → T9 → T10 → T11 → T12 → Prop) → T1 → T2 → T3 → T4 → T5 → T6 → T7 → T8 → T9 → T10 → T11 → T12 → Prop) : Nat → T1 → T2 → T3 → T4 → T5 → T6 → T7 → T8 → T9 → T10 → T11 → T12 → Prop
  | 0 => fun _ _ _ _ _ _ _ _ _ _ _ _ => False
  | k + 1 => F (it12 F k)
theorem it12_rule {T1 T2 T3 T4 T5 T6 T7 T8 T9 T10 T11 T12 : Type} {F : (T1 → T2 → T3 → T4 → T5 → T6 → T7 → T8 → T9 → T10 → T11 → T12 → Prop) → T1 → T2 → T3 → T4 → T5 → T6 → T7 → T8 → T9 → T10 → T11 → T12 → Prop} (I : T1 → T2 → T3 → T4 → T5 → T6 → T7 → T8 → T9 → T10 → T11 → T12 → Prop) (μ : T1 → T2 → T3 → T4 → T5 → T6 → T7 → T8 → T9 → T10 → T11 → T12 → Nat) (h : ∀ (rec : T1 → T2 → T3 → T4 → T5 → T6 → T7 → T8 → T9 → T10 → T11 → T12 → Prop) (a1 : T1) (a2 : T2) (a3 : T3) (a4 : T4) (a5 : T5) (a6 : T6) (a7 : T7) (a8 : T8) (a9 : T9) (a10 : T10) (a11 : T11) (a12 : T12), I a1 a2 a3 a4 a5 a6 a7 a8 a9 a10 a11 a12 → (∀ (b1 : T1) (b2 : T2) (b3 : T3) (b4 : T4) (b5 : T5) (b6 : T6) (b7 : T7) (b8 : T8) (b9 : T9) (b10 : T10) (b11 : T11) (b12 : T12), I b1 b2 b3 b4 b5 b6 b7 b8 b9 b10 b11 b12 → μ b1 b2 b3 b4 b5 b6 b7 b8 b9 b10 b11 b12 < μ a1 a2 a3 a4 a5 a6 a7 a8 a9 a10 a11 a12 → rec b1 b2 b3 b4 b5 b6 b7 b8 b9 b10 b11 b12) → F rec a1 a2 a3 a4 a5 a6 a7 a8 a9 a10 a11 a12) (a1 : T1) (a2 : T2) (a3 : T3) (a4 : T4) (a5 : T5) (a6 : T6) (a7 : T7) (a8 : T8) (a9 : T9) (a10 : T10) (a11 : T11) (a12 : T12) (h0 : I a1 a2 a3 a4 a5 a6 a7 a8 a9 a10 a11 a12) : ∃ k, it12 F k a1 a2 a3 a4 a5 a6 a7 a8 a9 a10 a11 a12 := by
  have key : ∀ (k : Nat) (a1 : T1) (a2 : T2) (a3 : T3) (a4 : T4) (a5 : T5) (a6 : T6) (a7 : T7) (a8 : T8) (a9 : T9) (a10 : T10) (a11 : T11) (a12 : T12), I a1 a2 a3 a4 a5 a6 a7 a8 a9 a10 a11 a12 → μ a1 a2 a3 a4 a5 a6 a7 a8 a9 a10 a11 a12 < k → it12 F k a1 a2 a3 a4 a5 a6 a7 a8 a9 a10 a11 a12 := by
    intro k
    induction k with
    | zero => intro a1 a2 a3 a4 a5 a6 a7 a8 a9 a10 a11 a12 _ hm; exact absurd hm (Nat.not_lt_zero _)
    | succ k ih => intro a1 a2 a3 a4 a5 a6 a7 a8 a9 a10 a11 a12 hI hm; exact h (it12 F k) a1 a2 a3 a4 a5 a6 a7 a8 a9 a10 a11 a12 hI (fun b1 b2 b3 b4 b5 b6 b7 b8 b9 b10 b11 b12 hI2 hm2 => ih b1 b2 b3 b4 b5 b6 b7 b8 b9 b10 b11 b12 hI2 (by omega))
  exact ⟨μ a1 a2 a3 a4 a5 a6 a7 a8 a9 a10 a11 a12 + 1, key _ a1 a2 a3 a4 a5 a6 a7 a8 a9 a10 a11 a12 h0 (Nat.lt_succ_self _)⟩
def it13 {T1 T2 T3 T4 T5 T6 T7 T8 T9 T10 T11 T12 T13 : Type} (F : (T1 → T2 → T3 → T4 → T5 → T6 → T7 → T8 → T9 → T10 → T11 → T12 → T13 → Prop) → T1 → T2 → T3 → T4 → T5 → T6 → T7 → T8 → T9 → T10 → T11 → T12 → T13 → Prop) : Nat → T1 → T2 → T3 → T4 → T5 → T6 → T7 → T8 → T9 → T10 → T11 → T12 → T13 → Prop
  | 0 => fun _ _ _ _ _ _ _ _ _ _ _ _ _ => False
  | k + 1 => F (it13 F k)
theorem it13_rule {T1 T2 T3 T4 T5 T6 T7 T8 T9 T10 T11 T12 T13 : Type} {F : (T1 → T2 → T3 → T4 → T5 → T6 → T7 → T8 → T9 → T10 → T11 → T12 → T13 → Prop) → T1 → T2 → T3 → T4 → T5 → T6 → T7 → T8 → T9 → T10 → T11 → T12 → T13 → Prop} (I : T1 → T2 → T3 → T4 → T5 → T6 → T7 → T8 → T9 → T10 → T11 → T12 → T13 → Prop) (μ : T1 → T2 → T3 → T4 → T5 → T6 → T7 → T8 → T9 → T10 → T11 → T12 → T13 → Nat) (h : ∀ (rec : T1 → T2 → T3 → T4 → T5 → T6 → T7 → T8 → T9 → T10 → T11 → T12 → T13 → Prop) (a1 : T1) (a2 : T2) (a3 : T3) (a4 : T4) (a5 : T5) (a6 : T6) (a7 : T7) (a8 : T8) (a9 : T9) (a10 : T10) (a11 : T11) (a12 : T12) (a13 : T13), I a1 a2 a3 a4 a5 a6 a7 a8 a9 a10 a11 a12 a13 → (∀ (b1 : T1) (b2 : T2) (b3 : T3) (b4 : T4) (b5 : T5) (b6 : T6) (b7 : T7) (b8 : T8) (b9 : T9) (b10 : T10) (b11 : T11) (b12 : T12) (b13 : T13), I b1 b2 b3 b4 b5 b6 b7 b8 b9 b10 b11 b12 b13 → μ b1 b2 b3 b4 b5 b6 b7 b8 b9 b10 b11 b12 b13 < μ a1 a2 a3 a4 a5 a6 a7 a8 a9 a10 a11 a12 a13 → rec b1 b2 b3 b4 b5 b6 b7 b8 b9 b10 b11 b12 b13) → F rec a1 a2 a3 a4 a5 a6 a7 a8 a9 a10 a11 a12 a13) (a1 : T1) (a2 : T2) (a3 : T3) (a4 : T4) (a5 : T5) (a6 : T6) (a7 : T7) (a8 : T8) (a9 : T9) (a10 : T10) (a11 : T11) (a12 : T12) (a13 : T13) (h0 : I a1 a2 a3 a4 a5 a6 a7 a8 a9 a10 a11 a12 a13) : ∃ k, it13 F k a1 a2 a3 a4 a5 a6 a7 a8 a9 a10 a11 a12 a13 := by
  have key : ∀ (k : Nat) (a1 : T1) (a2 : T2) (a3 : T3) (a4 : T4) (a5 : T5) (a6 : T6) (a7 : T7) (a8 : T8) (a9 : T9) (a10 : T10) (a11 : T11) (a12 : T12) (a13 : T13), I a1 a2 a3 a4 a5 a6 a7 a8 a9 a10 a11 a12 a13 → μ a1 a2 a3 a4 a5 a6 a7 a8 a9 a10 a11 a12 a13 < k → it13 F k a1 a2 a3 a4 a5 a6 a7 a8 a9 a10 a11 a12 a13 := by
    intro k
    induction k with
    | zero => intro a1 a2 a3 a4 a5 a6 a7 a8 a9 a10 a11 a12 a13 _ hm; exact absurd hm (Nat.not_lt_zero _)
    | succ k ih => intro a1 a2 a3 a4 a5 a6 a7 a8 a9 a10 a11 a12 a13 hI hm; exact h (it13 F k) a1 a2 a3 a4 a5 a6 a7 a8 a9 a10 a11 a12 a13 hI (fun b1 b2 b3 b4 b5 b6 b7 b8 b9 b10 b11 b12 b13 hI2 hm2 => ih b1 b2 b3 b4 b5 b6 b7 b8 b9 b10 b11 b12 b13 hI2 (by omega))
  exact ⟨μ a1 a2 a3 a4 a5 a6 a7 a8 a9 a10 a11 a12 a13 + 1, key _ a1 a2 a3 a4 a5 a6 a7 a8 a9 a10 a11 a12 a13 h0 (Nat.lt_succ_self _)⟩
def it14 {T1 T2 T3 T4 T5 T6 T7 T8 T9 T10 T11 T12 T13 T14 : Type} (F : (T1 → T2 → T3 → T4 → T5 → T6 → T7 → T8 → T9 → T10 → T11 → T12 → T13 → T14 → Prop) → T1 → T2 → T3 → T4 → T5 → T6 → T7 → T8 → T9 → T10 → T11 → T12 → T13 → T14 → Prop) : Nat → T1 → T2 → T3 → T4 → T5 → T6 → T7 → T8 → T9 → T10 → T11 → T12 → T13 → T14 → Prop
  | 0 => fun _ _ _ _ _ _ _ _ _ _ _ _ _ _ => False
  | k + 1 => F (it14 F k)
theorem it14_rule {T1 T2 T3 T4 T5 T6 T7 T8 T9 T10 T11 T12 T13 T14 : Type} {F : (T1 → T2 → T3 → T4 → T5 → T6 → T7 → T8 → T9 → T10 → T11 → T12 → T13 → T14 → Prop) → T1 → T2 → T3 → T4 → T5 → T6 → T7 → T8 → T9 → T10 → T11 → T12 → T13 → T14 → Prop} (I : T1 → T2 → T3 → T4 → T5 → T6 → T7 → T8 → T9 → T10 → T11 → T12 → T13 → T14 → Prop) (μ : T1 → T2 → T3 → T4 → T5 → T6 → T7 → T8 → T9 → T10 → T11 → T12 → T13 → T14 → Nat) (h : ∀ (rec : T1 → T2 → T3 → T4 → T5 → T6 → T7 → T8 → T9 → T10 → T11 → T12 → T13 → T14 → Prop) (a1 : T1) (a2 : T2) (a3 : T3) (a4 : T4) (a5 : T5) (a6 : T6) (a7 : T7) (a8 : T8) (a9 : T9) (a10 : T10) (a11 : T11) (a12 : T12) (a13 : T13) (a14 : T14), I a1 a2 a3 a4 a5 a6 a7 a8 a9 a10 a11 a12 a13 a14 → (∀ (b1 : T1) (b2 : T2) (b3 : T3) (b4 : T4) (b5 : T5) (b6 : T6) (b7 : T7) (b8 : T8) (b9 : T9) (b10 : T10) (b11 : T11) (b12 : T12) (b13 : T13) (b14 : T14), I b1 b2 b3 b4 b5 b6 b7 b8 b9 b10 b11 b12 b13 b14 → μ b1 b2 b3 b4 b5 b6 b7 b8 b9 b10 b11 b12 b13 b14 < μ a1 a2 a3 a4 a5 a6 a7 a8 a9 a10 a11 a12 a13 a14 → rec b1 b2 b3 b4 b5 b6 b7 b8 b9 b10 b11 b12 b13 b14) → F rec a1 a2 a3 a4 a5 a6 a7 a8 a9 a10 a11 a12 a13 a14) (a1 : T1) (a2 : T2) (a3 : T3) (a4 : T4) (a5 : T5) (a6 : T6) (a7 : T7) (a8 : T8) (a9 : T9) (a10 : T10) (a11 : T11) (a12 : T12) (a13 : T13) (a14 : T14) (h0 : I a1 a2 a3 a4 a5 a6 a7 a8 a9 a10 a11 a12 a13 a14) : ∃ k, it14 F k a1 a2 a3 a4 a5 a6 a7 a8 a9 a10 a11 a12 a13 a14 := by
  have key : ∀ (k : Nat) (a1 : T1) (a2 : T2) (a3 : T3) (a4 : T4) (a5 : T5) (a6 : T6) (a7 : T7) (a8 : T8) (a9 : T9) (a10 : T10) (a11 : T11) (a12 : T12) (a13 : T13) (a14 : T14), I a1 a2 a3 a4 a5 a6 a7 a8 a9 a10 a11 a12 a13 a14 → μ a1 a2 a3 a4 a5 a6 a7 a8 a9 a10 a11 a12 a13 a14 < k → it14 F k a1 a2 a3 a4 a5 a6 a7 a8 a9 a10 a11 a12 a13 a14 := by
    intro k
    induction k with
    | zero => intro a1 a2 a3 a4 a5 a6 a7 a8 a9 a10 a11 a12 a13 a14 _ hm; exact absurd hm (Nat.not_lt_zero _)
    | succ k ih => intro a1 a2 a3 a4 a5 a6 a7 a8 a9 a10 a11 a12 a13 a14 hI hm; exact h (it14 F k) a1 a2 a3 a4 a5 a6 a7 a8 a9 a10 a11 a12 a13 a14 hI (fun b1 b2 b3 b4 b5 b6 b7 b8 b9 b10 b11 b12 b13 b14 hI2 hm2 => ih b1 b2 b3 b4 b5 b6 b7 b8 b9 b10 b11 b12 b13 b14 hI2 (by omega))
  exact ⟨μ a1 a2 a3 a4 a5 a6 a7 a8 a9 a10 a11 a12 a13 a14 + 1, key _ a1 a2 a3 a4 a5 a6 a7 a8 a9 a10 a11 a12 a13 a14 h0 (Nat.lt_succ_self _)⟩
