abbrev bO0 (k : Nat → ClassId) (h : Nat) (f0 : Value) (f1 : Value) (f2 : Value) (f3 : Value) : va_W := [(h, .inr (0, [f0, f1, f2, f3]))]
abbrev bO1 (k : Nat → ClassId) (h : Nat) (f0 : Value) (f1 : Value) (f2 : Value) (f3 : Value) : va_W := [(h, .inr (1, [f0, f1, f2, f3]))]
abbrev bO2 (k : Nat → ClassId) (h : Nat) (f0 : Value) (f1 : Value) (f2 : Value) (f3 : Value) (f4 : Value) (f5 : Value) : va_W := [(h, .inr (2, [f0, f1, f2, f3, f4, f5]))]
abbrev bO3 (k : Nat → ClassId) (h : Nat) (f0 : Value) (f1 : Value) : va_W := [(h, .inr (3, [f0, f1]))]
abbrev bO4 (k : Nat → ClassId) (h : Nat) (f0 : Value) : va_W := [(h, .inr (4, [f0]))]
abbrev bO5 (k : Nat → ClassId) (h : Nat) (f0 : Value) (f1 : Value) (f2 : Value) (f3 : Value) : va_W := [(h, .inr (5, [f0, f1, f2, f3]))]
abbrev bO6 (k : Nat → ClassId) (h : Nat) (f0 : Value) : va_W := [(h, .inr (6, [f0]))]
abbrev bO7 (k : Nat → ClassId) (h : Nat) (f0 : Value) (f1 : Value) (f2 : Value) (f3 : Value) (f4 : Value) (f5 : Value) : va_W := [(h, .inr (7, [f0, f1, f2, f3, f4, f5]))]
abbrev bO8 (k : Nat → ClassId) (h : Nat) (f0 : Value) (f1 : Value) (f2 : Value) (f3 : Value) (f4 : Value) (f5 : Value) (f6 : Value) : va_W := [(h, .inr (8, [f0, f1, f2, f3, f4, f5, f6]))]
abbrev bO9 (k : Nat → ClassId) (h : Nat) (f0 : Value) (f1 : Value) (f2 : Value) (f3 : Value) : va_W := [(h, .inr (9, [f0, f1, f2, f3]))]
abbrev bO10 (k : Nat → ClassId) (h : Nat) (f0 : Value) (f1 : Value) : va_W := [(h, .inr (10, [f0, f1]))]
abbrev bO11 (k : Nat → ClassId) (h : Nat) (f0 : Value) (f1 : Value) (f2 : Value) (f3 : Value) (f4 : Value) (f5 : Value) (f6 : Value) : va_W := [(h, .inr (11, [f0, f1, f2, f3, f4, f5, f6]))]
abbrev bO12 (k : Nat → ClassId) (h : Nat) (f0 : Value) (f1 : Value) (f2 : Value) (f3 : Value) (f4 : Value) (f5 : Value) (f6 : Value) (f7 : Value) (f8 : Value) (f9 : Value) (f10 : Value) (f11 : Value) (f12 : Value) (f13 : Value) (f14 : Value) (f15 : Value) : va_W := [(h, .inr (12, [f0, f1, f2, f3, f4, f5, f6, f7, f8, f9, f10, f11, f12, f13, f14, f15]))]
abbrev bO13 (k : Nat → ClassId) (h : Nat) (f0 : Value) : va_W := [(h, .inr (13, [f0]))]
abbrev bC4 (k : Nat → ClassId) (ad : Nat) (f : Nat → Int32) : va_W := [(ad, .inl (k 1, 4, .inl f))]
abbrev bC12 (k : Nat → ClassId) (ad : Nat) (f : Nat → Int32) : va_W := [(ad, .inl (k 1, 12, .inl f))]
abbrev bI16 (k : Nat → ClassId) (ad : Nat) (f : Nat → Int32) : va_W := [(ad, .inl (k 0, 16, .inl f))]
abbrev bC16 (k : Nat → ClassId) (ad : Nat) (f : Nat → Int32) : va_W := [(ad, .inl (k 1, 16, .inl f))]
abbrev bL1 (k : Nat → ClassId) (ad : Nat) (f : Nat → Int64) : va_W := [(ad, .inl (k 3, 1, .inr (.inl f)))]
abbrev bPO (k : Nat → ClassId) (ad : Nat) (fs : Nat → Option Nat) : va_W := [(ad, .inl (k 6, 8, .inr (.inr (.inr (.inr fs)))))]
/-! Constructors: what they stand on. -/
def va_AOA (ty : FieldType) (U : State) : Prop := (Cond.arrayOver (.array ty)).before #[] U = true
theorem va_AOA.of {ty : FieldType} {A : Array Value} {U : State} (h : (Cond.arrayOver (.array ty)).before A U = true) : va_AOA ty U := h
theorem va_AOA.use {ty : FieldType} {A : Array Value} {U : State} (h : va_AOA ty U) : (Cond.arrayOver (.array ty)).before A U = true := h
theorem va_AOA.moved {ty : FieldType} {u U : State} (hvm : u.vm.Alike U.vm) (h : va_AOA ty u) : va_AOA ty U := Jvm.Stand.arrayOver_alikeB hvm h
section VGM
variable {p : Program} {l : Launch} {e : Env} {R : Room} {s : State} {m : MethodId} {args : Array Value} {below : List Frame} {meth : Method} {c : Code} {H : Heap} {locs : List Loc} {cells slots : Nat} {Q : State → Prop}
variable {cc : ByteArray} {pc : Nat} {ls : Array Slot} {rest : List Value} {D : va_G} {cl : List vw_C} {A : Nat → Prop} {a : Nat} {tys : List (ClassId × FieldType)} {ws : va_W} {H0 : Heap}
theorem va_mna {X : va_W} {L : List Nat} {f : Nat → va_E} {cc : ByteArray} (hexec : p.tables.exec = Jvm.exec) (hb : c.code = cc) {own : String} {index : Nat} {ty : FieldType} {cy : ClassId} (hown : s.vm.findClass own = some m.cls) (hclink : (Cond.classLink own index ("[" ++ (FieldType.array ty).toString)).before args s = true) (hover : va_AOA ty s) (harr : (Cond.arrayClass ty).before args s = true) (hcy : s.vm.findClass (FieldType.array ty).toString = some cy)
    (hK : va_K D cl tys s) (hP : va_P D cl (X ++ va_pl L f) H) (hD : va_D A (X ++ va_pl L f)) (hS : va_S A H0 H locs) (hA : ∀ q, H0.size ≤ q → A q) {n k : Int32} {N' K' : Nat} {z : vp_A} (hn : ¬ n < 0) (hk : ¬ k < 0) (hN : n.toNatClampNeg = N') (hM : k.toNatClampNeg = K')
    (hb1 : N' * 4 ≤ 536870912) (hb2 : K' * componentBytes ty ≤ 536870912) (hb3 : K' ≤ 536870912) (hdf : fits ty (defaultValue ty) = true) (hdd : (defaultValue ty).isDefault = true) (hcells : cells + (1 + N') ≤ R.cells) (hslots : slots + (N' + N' * K') ≤ R.slots) (hz : ∀ c : ClassId, Jvm.Free.Multi.innerC c K' (defaultValue ty) = vp_cell c z) (hdg : decode cc pc = .ok (.multianewarray index 2, 4))
    (kk : ∀ (q : Nat) (r : Nat → Nat) (cA : ClassId) (H1 : Heap), (∀ i j : Nat, i < N' → j < N' → r i = r j → i = j) → (∀ i : Nat, i < N' → r i ∉ L) → va_K D cl (tys ++ [(cA, .array ty)]) s →
      va_P D cl ((X ++ [(q, .inl (cA, N', .inr (.inr (.inr (.inr (fun i => if i < N' then some (r i) else none))))))]) ++ va_pl (L ++ (List.range N').map r) (vr_up f ((List.range N').map r) (.inl (cy, z)))) H1 → va_D A ((X ++ [(q, .inl (cA, N', .inr (.inr (.inr (.inr (fun i => if i < N' then some (r i) else none))))))]) ++ va_pl (L ++ (List.range N').map r) (vr_up f ((List.range N').map r) (.inl (cy, z)))) → va_S A H0 H1 locs →
      W p l e R s m args below meth c H1 locs (cells + 1 + N') (slots + N' + N' * K') Q (F0 m (pc + 4) ls (.ref q :: rest))) : W p l e R s m args below meth c H locs cells slots Q (F0 m pc ls (.int k :: .int n :: rest)) := by
  subst hN
  subst hM
  intro T hT Xs
  obtain ⟨vm₁, cA, comp, -, fA, fC, hO, -, X', step⟩ := Xs.multianewarray2F hexec hown hclink (va_AOA.use hover) harr (g := F0 m pc ls (.int k :: .int n :: rest)) rfl (by rw [hb]; exact hdg) rfl hn hk hb1 hb2 hb3 hdf hdd hcells hslots
  have ec : some cy = some comp := hcy.symm.trans fC
  cases ec
  generalize hF : Jvm.Free.Multi.fill (T.setVm vm₁) cA cy n.toNatClampNeg k.toNatClampNeg (defaultValue ty) n.toNatClampNeg = F at X' step
  have hTh : (T.setVm vm₁).heap = H := hT
  obtain ⟨f1, f2, -, -⟩ := Jvm.Free.Multi.fill_facts (T.setVm vm₁) cA cy n.toNatClampNeg k.toNatClampNeg (defaultValue ty) n.toNatClampNeg
  rw [hF, hTh] at f1 f2
  have hold : ∀ x : Nat, x < H.size → F.heap[x]? = H[x]? := fun x hx => by
    have := Jvm.Free.Multi.fill_old (T.setVm vm₁) cA cy n.toNatClampNeg k.toNatClampNeg (defaultValue ty) (a := x) (by rw [hTh]; exact hx) n.toNatClampNeg
    rw [hF, hTh] at this
    exact this
  have hrow : ∀ j : Nat, j < n.toNatClampNeg → F.heap[H.size + 1 + j]? = some (vp_cell cy z) := fun j hj => by
    have := Jvm.Free.Multi.fill_inner (T.setVm vm₁) cA cy n.toNatClampNeg k.toNatClampNeg (defaultValue ty) n.toNatClampNeg j hj
    rw [hF, hTh, hz] at this
    exact this
  have hout : Jvm.Free.Multi.outerC cA n.toNatClampNeg H.size n.toNatClampNeg = vp_cell cA (n.toNatClampNeg, .inr (.inr (.inr (.inr (fun i => if i < n.toNatClampNeg then some (H.size + 1 + i) else none))))) := by
    rw [vp_cell_q]
    exact vr_outer cA n.toNatClampNeg H.size n.toNatClampNeg
  rw [hout] at f2
  have hlt : ∀ a, a ∈ L → a < H.size := fun a ha => by
    obtain ⟨k9, hk9⟩ := va_pl_get (X := X) (f := f) ha
    exact (hP k9 _ hk9).lt
  have hnl : ∀ i : Nat, i < n.toNatClampNeg → H.size + 1 + i ∉ L := fun i _ h => by
    have := hlt _ h
    omega
  have hnm : ∀ a, a ∈ (List.range n.toNatClampNeg).map (fun i => H.size + 1 + i) → a ∉ L := fun a ha h => by
    obtain ⟨i, -, rfl⟩ := List.mem_map.mp ha
    have := hlt _ h
    omega
  have hP0 : va_P D cl (X ++ va_pl L f) F.heap := hP.kept (fun k9 x hx => hold x.1 ((hP k9 x hx).lt))
  have hP1 : va_P D cl ((X ++ va_pl L f) ++ [(H.size, .inl (cA, n.toNatClampNeg, .inr (.inr (.inr (.inr (fun i => if i < n.toNatClampNeg then some (H.size + 1 + i) else none))))))]) F.heap := hP0.app (fun k9 x hx => by
    have h0 : k9 < 1 := (List.getElem?_eq_some_iff.mp hx).1
    rw [show k9 = 0 by omega] at hx
    cases hx
    exact f2)
  have hP2 : va_P D cl (((X ++ va_pl L f) ++ [(H.size, .inl (cA, n.toNatClampNeg, .inr (.inr (.inr (.inr (fun i => if i < n.toNatClampNeg then some (H.size + 1 + i) else none))))))]) ++ ((List.range n.toNatClampNeg).map (fun i => H.size + 1 + i)).map (fun a => (a, .inl (cy, z)))) F.heap := hP1.app (fun k9 x hx => by
    obtain ⟨a, ha, rfl⟩ := List.mem_map.mp (List.mem_of_getElem? hx)
    obtain ⟨i, hi, rfl⟩ := List.mem_map.mp ha
    exact hrow i (List.mem_range.mp hi))
  have hD2 : va_D A (((X ++ va_pl L f) ++ [(H.size, .inl (cA, n.toNatClampNeg, .inr (.inr (.inr (.inr (fun i => if i < n.toNatClampNeg then some (H.size + 1 + i) else none))))))]) ++ ((List.range n.toNatClampNeg).map (fun i => H.size + 1 + i)).map (fun a => (a, .inl (cy, z)))) := by
    have hD1 := hD.push (e := .inl (cA, n.toNatClampNeg, .inr (.inr (.inr (.inr (fun i => if i < n.toNatClampNeg then some (H.size + 1 + i) else none)))))) hP rfl (hA _ hS.1)
    generalize hW1 : (X ++ va_pl L f) ++ [(H.size, .inl (cA, n.toNatClampNeg, .inr (.inr (.inr (.inr (fun i => if i < n.toNatClampNeg then some (H.size + 1 + i) else none))))))] = W1 at hD1 hP1 ⊢
    have hle : ∀ (k9 : Nat) (x : Nat × va_E), W1[k9]? = some x → x.1 ≤ H.size := fun k9 x hx => by
      rw [← hW1] at hx
      by_cases hl : k9 < (X ++ va_pl L f).length
      · rw [List.getElem?_append_left hl] at hx
        exact Nat.le_of_lt ((hP k9 x hx).lt)
      · rw [List.getElem?_append_right (by omega)] at hx
        have h0 : k9 - (X ++ va_pl L f).length < 1 := (List.getElem?_eq_some_iff.mp hx).1
        rw [show k9 - (X ++ va_pl L f).length = 0 by omega] at hx
        cases hx
        exact Nat.le_refl _
    have hr : ∀ (k9 : Nat) (x : Nat × va_E), (((List.range n.toNatClampNeg).map (fun i => H.size + 1 + i)).map (fun a => ((a, .inl (cy, z)) : Nat × va_E)))[k9]? = some x → x.1 = H.size + 1 + k9 := fun k9 x hx => by
      rw [List.getElem?_map, List.getElem?_map] at hx
      by_cases h9 : k9 < n.toNatClampNeg
      · rw [List.getElem?_range h9] at hx
        cases hx
        rfl
      · have hn0 : (List.range n.toNatClampNeg)[k9]? = none := List.getElem?_eq_none (by rw [List.length_range]; omega)
        rw [hn0] at hx
        cases hx
    refine ⟨fun i j x y hi hj hxy => ?_, fun k9 x hx => ?_⟩
    · by_cases h1 : i < W1.length <;> by_cases h2 : j < W1.length
      · rw [List.getElem?_append_left h1] at hi
        rw [List.getElem?_append_left h2] at hj
        exact hD1.1 i j x y hi hj hxy
      · rw [List.getElem?_append_left h1] at hi
        rw [List.getElem?_append_right (by omega)] at hj
        have := hle _ _ hi
        have := hr _ _ hj
        omega
      · rw [List.getElem?_append_right (by omega)] at hi
        rw [List.getElem?_append_left h2] at hj
        have := hle _ _ hj
        have := hr _ _ hi
        omega
      · rw [List.getElem?_append_right (by omega)] at hi hj
        have := hr _ _ hi
        have := hr _ _ hj
        omega
    · by_cases h1 : k9 < W1.length
      · rw [List.getElem?_append_left h1] at hx
        exact hD1.2 k9 x hx
      · rw [List.getElem?_append_right (by omega)] at hx
        have := hr _ _ hx
        exact hA _ (by have := hS.1; omega)
  have hAr : ArrOfT s cA (.array ty) := fun N9 z9 => by
    obtain ⟨-, k9, hk9, cm9, hkk9⟩ := (hO 0 0 0).1
    exact ⟨(fun q hq => by cases hq), k9, hk9, cm9, hkk9⟩
  have hK2 : va_K D cl (tys ++ [(cA, .array ty)]) s := ⟨hK.1, fun k9 x hx => by
    by_cases hl : k9 < tys.length
    · rw [List.getElem?_append_left hl] at hx
      exact hK.2 k9 x hx
    · rw [List.getElem?_append_right (by omega)] at hx
      have h0 : k9 - tys.length < 1 := (List.getElem?_eq_some_iff.mp hx).1
      rw [show k9 - tys.length = 0 by omega] at hx
      cases hx
      exact ⟨hAr, fA⟩⟩
  obtain ⟨t, a1, b1⟩ := kk H.size (fun i => H.size + 1 + i) cA F.heap (fun i j _ _ h => by have h9 : H.size + 1 + i = H.size + 1 + j := h; omega) hnl hK2 (by rw [← vr_rows hnm]; exact vr_lay hP2) (by rw [← vr_rows hnm]; exact vr_layD hD2) ⟨by rw [f1]; have := hS.1; omega, fun x h1 h2 => (hold x (Nat.lt_of_lt_of_le h1 hS.1)).trans (hS.2.1 x h1 h2), hS.2.2⟩ F rfl X'
  refine ⟨t, step t ?_, b1⟩
  have e : T.heap.size = H.size := by rw [hT]
  rw [e]
  exact a1
end VGM
/-- the array classes that constructors make arrays of -/
def AO (U : State) : Prop := va_AOA .long U ∧ va_AOA .int U ∧ va_AO "OpinionReactor$State" U ∧ va_AO "OpinionReactor$Form" U
theorem AO.moved {u U : State} (hvm : u.vm.Alike U.vm) (h : AO u) : AO U := ⟨h.1.moved hvm, h.2.1.moved hvm, h.2.2.1.moved hvm, h.2.2.2.moved hvm⟩
def APc (D : va_G) (k : Nat → ClassId) (av : List Value) (ws : va_W) (sz : Nat) : Array Value → State → Prop := va_Pc av (fun U => U.heap.size = sz ∧ va_P D vwCl ws U.heap ∧ va_K D vwCl (tyL k) U ∧ NW U ∧ va_D (fun _ => True) ws ∧ AO U)
theorem APc.blind {D : va_G} {k : Nat → ClassId} {av : List Value} {ws : va_W} {sz : Nat} : FrameBlind (APc D k av ws sz) := fun a U g mk q => ⟨q.1, q.2.1, q.2.2.1, va_K.moved (u := U) (U := U.calling g mk a) (Vm.Alike.refl U.vm) q.2.2.2.1, NW.same (u := U) (U := U.calling g mk a) rfl q.2.2.2.2.1, q.2.2.2.2.2.1, AO.moved (u := U) (U := U.calling g mk a) (Vm.Alike.refl U.vm) q.2.2.2.2.2.2⟩
/-- a constructor's end: its world, at places that it names -/
abbrev WU {S : Type} (D : va_G) (k : Nat → ClassId) (px : S → Prop) (wu : S → va_W) (A : Nat → Prop) : Array Value → State → Outcome → State → Prop := va_Qv px (fun (u : S) t => va_P D vwCl (wu u) t.heap ∧ va_K D vwCl (tyL k) t ∧ va_D A (wu u)) A
theorem va_RA_inj {U : State} {a b : ClassId} {ty : FieldType} (h1 : va_RA U a ty) (h2 : va_RA U b ty) : a = b := by
  cases ty with
  | object C =>
    obtain ⟨_, _, _, _, _, e1⟩ := h1
    obtain ⟨_, _, _, _, _, e2⟩ := h2
    exact Option.some.inj (e1.symm.trans e2)
  | _ => exact Option.some.inj ((show U.vm.findClass _ = some a from h1).symm.trans (show U.vm.findClass _ = some b from h2))
theorem ext_q {D : va_G} {A : Nat → Prop} {ws : va_W} {H : Heap} {a n : Nat} {cA : ClassId} {f g : Nat → Option Nat} (hP : va_P D vwCl ws H) (hD : va_D A ws) (i : Nat) (he : ws[i]? = some (a, .inl (cA, n, .inr (.inr (.inr (.inr f)))))) (h : ∀ j, j < n → f j = g j) : va_P D vwCl (ws.set i (a, .inl (cA, n, .inr (.inr (.inr (.inr g)))))) H ∧ va_D A (ws.set i (a, .inl (cA, n, .inr (.inr (.inr (.inr g)))))) := by
  refine ⟨hP.set hD he ?_ (fun _ _ => rfl), hD.set he⟩
  have h0 : H[a]? = some (vp_cell cA (n, .inr (.inr (.inr (.inr f))))) := hP i _ he
  show H[a]? = some (vp_cell cA (n, .inr (.inr (.inr (.inr g)))))
  rw [h0, vp_cell_q, vp_cell_q]
  unfold arrV
  congr 3
  funext j
  exact congrArg va_rf (h j.val j.isLt)
theorem nw_inner (c : ClassId) (N : Nat) (v : Value) (z : vp_A) (h : vp_cell c z = arrV c N (fun _ => v) := by rfl) : Jvm.Free.Multi.innerC c N v = vp_cell c z := by
  rw [h]
  show ({ cls := c, slots := Array.replicate N v, vm := .none } : Cell) = _
  rw [arrV_new]
section NEWS
variable {p : Program} {l : Launch} {e : Env} {R : Room} {s : State} {m : MethodId} {args : Array Value} {below : List Frame} {meth : Method} {c : Code} {H H0 : Heap} {locs : List Loc} {cells slots : Nat} {Q : State → Prop}
variable {cc : ByteArray} {pc : Nat} {ls : Array Slot} {rest As : List Value} {D : va_G} {k : Nat → ClassId} {A : Nat → Prop} {ws wc : va_W} {b : Addr}
theorem aPreS (hK : va_K D vwCl (tyL k) s) (hN : NW s) (hA : AO s) (hP : va_P D vwCl ws H) (hD : va_D A ws) (is : List Nat) (hs : is.filterMap (fun i => ws[i]?) = wc) (hnd : va_nd is = true) (hs2 : is.map (fun i => ws[i]?) = wc.map some) : PreS s H (APc D k As wc H.size) As :=
  ⟨APc.blind, fun U hU hW => ⟨rfl, by rw [hU], by rw [hU]; exact hP.sub is hs, va_K.moved hW.alike hK, NW.warm hW hN, (hD.sub is hnd hs2).weaken (fun _ _ _ _ => trivial), AO.moved hW.alike hA⟩⟩
theorem nw_arr (hexec : p.tables.exec = Jvm.exec) (hb : c.code = cc) {atype : ArrayType} (harr : (Cond.arrayClass (newarray.typeOf atype)).before args s = true) {ty : FieldType} (hty : newarray.typeOf atype = ty) (hK : va_K D vwCl (tyL k) s) (hP : va_P D vwCl ws H) (hD : va_D A ws) (hS : va_S A H0 H locs) (hA : ∀ q, H0.size ≤ q → A q)
    {n : Int32} {N' : Nat} {a0 : vp_A} (ha : ∀ cA : ClassId, vp_cell cA a0 = arrV cA N' (fun _ => defaultValue ty)) (hn : ¬ n < 0) (hN : n.toNatClampNeg = N') (hbytes : N' * componentBytes ty ≤ 536870912) (hcells : cells + 1 ≤ R.cells) (hslots : slots + N' ≤ R.slots) (t0 : Nat) {kt : ClassId} (ht : (tyL k)[t0]? = some (kt, ty)) (hdg : decode cc pc = .ok (.newarray atype, 2))
    (kk : ∀ (q : Nat) (H1 : Heap), va_P D vwCl (ws ++ [(q, .inl (kt, a0))]) H1 → va_D A (ws ++ [(q, .inl (kt, a0))]) → va_S A H0 H1 locs → W p l e R s m args below meth c H1 locs (cells + 1) (slots + N') Q (F0 m (pc + 2) ls (.ref q :: rest))) : W p l e R s m args below meth c H locs cells slots Q (F0 m pc ls (.int n :: rest)) := by
  refine va_newa hexec hb harr hty hK hP hD hS hA ha hn hN hbytes hcells hslots hdg (fun q cA H1 hK1 hP1 hD1 hS1 => ?_)
  have e : cA = kt := va_RA_inj (hK1.2 9 (cA, ty) rfl).2 (hK.2 t0 _ ht).2
  subst e
  exact kk q H1 hP1 hD1 hS1
theorem nw_q (hexec : p.tables.exec = Jvm.exec) (hb : c.code = cc) {own C : String} {index : Nat} (hown : s.vm.findClass own = some m.cls) (hclink : (Cond.classLink own index C).before args s = true) (hover : va_AO C s) (hK : va_K D vwCl (tyL k) s) (hP : va_P D vwCl ws H) (hD : va_D A ws) (hS : va_S A H0 H locs) (hA : ∀ q, H0.size ≤ q → A q)
    {n : Int32} {N' : Nat} (hn : ¬ n < 0) (hN : n.toNatClampNeg = N') (hbytes : N' * 4 ≤ 536870912) (hcells : cells + 1 ≤ R.cells) (hslots : slots + N' ≤ R.slots) (t0 : Nat) {kt : ClassId} (ht : (tyL k)[t0]? = some (kt, .object C)) (hdg : decode cc pc = .ok (.anewarray index, 3))
    (kk : ∀ (q : Nat) (H1 : Heap), va_P D vwCl (ws ++ [(q, .inl (kt, N', .inr (.inr (.inr (.inr (fun _ => none))))))]) H1 → va_D A (ws ++ [(q, .inl (kt, N', .inr (.inr (.inr (.inr (fun _ => none))))))]) → va_S A H0 H1 locs → W p l e R s m args below meth c H1 locs (cells + 1) (slots + N') Q (F0 m (pc + 3) ls (.ref q :: rest))) : W p l e R s m args below meth c H locs cells slots Q (F0 m pc ls (.int n :: rest)) := by
  refine va_newq hexec hb hown hclink hover hK hP hD hS hA hn hN hbytes hcells hslots hdg (fun q cA H1 hK1 hP1 hD1 hS1 => ?_)
  have e : cA = kt := va_RA_inj (hK1.2 9 (cA, .object C) rfl).2 (hK.2 t0 _ ht).2
  subst e
  exact kk q H1 hP1 hD1 hS1
theorem nw_m {own : String} {index : Nat} {ty : FieldType} {cy ko : ClassId} {z : vp_A} (hexec : p.tables.exec = Jvm.exec) (hb : c.code = cc) (hown : s.vm.findClass own = some m.cls) (hclink : (Cond.classLink own index ("[" ++ (FieldType.array ty).toString)).before args s = true) (hover : va_AOA ty s) (harr : (Cond.arrayClass ty).before args s = true) (hcy : s.vm.findClass (FieldType.array ty).toString = some cy)
    (hK : va_K D vwCl (tyL k) s) (hP : va_P D vwCl ws H) (hD : va_D A ws) (hS : va_S A H0 H locs) (hA : ∀ q, H0.size ≤ q → A q) {n k' : Int32} {N' K' : Nat} (hn : ¬ n < 0) (hk : ¬ k' < 0) (hN : n.toNatClampNeg = N') (hM : k'.toNatClampNeg = K')
    (hb1 : N' * 4 ≤ 536870912) (hb2 : K' * componentBytes ty ≤ 536870912) (hb3 : K' ≤ 536870912) (hdf : fits ty (defaultValue ty) = true) (hdd : (defaultValue ty).isDefault = true) (hcells : cells + (1 + N') ≤ R.cells) (hslots : slots + (N' + N' * K') ≤ R.slots) (hz : ∀ c : ClassId, Jvm.Free.Multi.innerC c K' (defaultValue ty) = vp_cell c z) (t0 : Nat) (ht : (tyL k)[t0]? = some (ko, .array ty)) (hdg : decode cc pc = .ok (.multianewarray index 2, 4))
    (kk : ∀ (q : Nat) (r : Nat → Nat) (H1 : Heap), va_P D vwCl ((ws ++ [(q, .inl (ko, N', .inr (.inr (.inr (.inr (fun i => if i < N' then some (r i) else none))))))]) ++ (List.range N').map (fun i => (r i, .inl (cy, z)))) H1 → va_D A ((ws ++ [(q, .inl (ko, N', .inr (.inr (.inr (.inr (fun i => if i < N' then some (r i) else none))))))]) ++ (List.range N').map (fun i => (r i, .inl (cy, z)))) → va_S A H0 H1 locs →
      W p l e R s m args below meth c H1 locs (cells + 1 + N') (slots + N' + N' * K') Q (F0 m (pc + 4) ls (.ref q :: rest))) : W p l e R s m args below meth c H locs cells slots Q (F0 m pc ls (.int k' :: .int n :: rest)) := by
  refine va_mna (X := ws) (L := []) (f := fun _ => .inl (cy, z)) hexec hb hown hclink hover harr hcy hK (by rw [show va_pl [] (fun _ => .inl (cy, z)) = [] from rfl, List.append_nil]; exact hP) (by rw [show va_pl [] (fun _ => .inl (cy, z)) = [] from rfl, List.append_nil]; exact hD) hS hA hn hk hN hM hb1 hb2 hb3 hdf hdd hcells hslots hz hdg (fun q r cA H1 hinj _ hK1 hP1 hD1 hS1 => ?_)
  have e : cA = ko := va_RA_inj (hK1.2 9 (cA, .array ty) rfl).2 (hK.2 t0 _ ht).2
  subst e
  have e2 : va_pl ([] ++ (List.range N').map r) (vr_up (fun _ => (.inl (cy, z) : va_E)) ((List.range N').map r) (.inl (cy, z))) = (List.range N').map (fun i => (r i, .inl (cy, z))) := by
    simp only [va_pl, List.nil_append, List.map_map]
    apply List.map_congr_left
    intro i hi
    show (r i, vr_up (fun _ => (.inl (cy, z) : va_E)) ((List.range N').map r) (.inl (cy, z)) (r i)) = _
    rw [vr_up_in (List.mem_map.mpr ⟨i, hi, rfl⟩)]
  rw [e2] at hP1 hD1
  exact kk q r H1 hP1 hD1 hS1
theorem so_st {a : Nat} (hexec : p.tables.exec = Jvm.exec) (hb : c.code = cc) (hK : va_K D vwCl (tyL k) s) (hP : va_P D vwCl ws H) (hD : va_D A ws) (hS : va_S A H0 H locs) (q0 t0 qk ci : Nat) {cA : ClassId} {r : vw_C} {n v : Nat} {vs : List Value} {f : Nat → Option Nat} (ha : ws[q0]? = some (a, .inl (cA, n, .inr (.inr (.inr (.inr f)))))) (ht : (tyL k)[t0]? = some (cA, .object r.1)) (hv : ws[qk]? = some (v, .inr (ci, vs))) (hc : vwCl[ci]? = some r) (j : Nat) (hj : j < n) (hn : n < 2 ^ 31) (wf : va_W) (hf : ws.set q0 (a, .inl (cA, n, .inr (.inr (.inr (.inr (va_up f j (some v))))))) = wf) (hdg : decode cc pc = .ok (.aastore, 1))
    (kk : ∀ (H1 : Heap) (locs1 : List Loc), va_P D vwCl wf H1 → va_D A wf → va_S A H0 H1 locs1 → W p l e R s m args below meth c H1 locs1 cells slots Q (F0 m (pc + 1) ls rest)) : W p l e R s m args below meth c H locs cells slots Q (F0 m pc ls (.ref v :: .int (nI j) :: .ref a :: rest)) := by
  refine va_astq hexec hb hK hP hD hS q0 t0 qk ci ha ht hv hc (vp_in_nI hj hn) hdg ?_
  rw [nI_clamp (Nat.lt_trans hj hn), hf]
  exact kk
end NEWS
/-- a constructor's contract, by the walk of its body -/
theorem aMet {l : Launch} {D : va_G} {k : Nat → ClassId} {ws : va_W} {ws' ws9 : List Cond} {y : MethodName} {rm : Room} {cc : ByteArray} {maxL : Nat} {ret : Option FieldType} {Qc : (Nat → Prop) → Array Value → State → Outcome → State → Prop} {mc ms sz : Nat} (av : List Value) (hy : plainName y.cls = true) (hw : ws9 = Cond.code y cc maxL ret :: ws') (hlen : (lg_sl av).length ≤ maxL)
    (body : ∀ (p : Program) (e : Env) (s : State) (m : MethodId) (below : List Frame) (meth : Method) (c : Code) (ls : Array Slot) (A : Nat → Prop) (H : Heap), CallFix p m c cc maxL s av.toArray ws9 y.cls → meth.sig.returnType = ret → meth.locks = false → va_P D vwCl ws H → va_K D vwCl (tyL k) s → NW s → AO s → va_D A ws → (∀ q : Nat, s.heap.size ≤ q → A q) → va_S A s.heap H [] → lv_has ls maxL (lv_args 0 av) → (y.name = "<init>" → meth.name = "<init>") → W p l e rm s m av.toArray below meth c H [] 0 0 (MQ below (Qc A) av.toArray s mc ms A) (F0 m 0 ls [])) : Met l y ws9 rm (APc D k av ws sz) (Qc (va_A ws sz)) mc ms (va_A ws sz) := by
  refine Met.ofW (cc := cc) (maxL := maxL) (ret := ret) hy hw ?_
  intro p e s m args below meth c s₁ B hml hv
  obtain ⟨rfl, hsz, hP, hK, hN, hD0, hAO⟩ := hv
  have hts := atoms_spec (ws := ws9) B.pre
  have hown : s.vm.findClass y.cls = some m.cls := findClass_of_methodNamed B.named
  have hl := lv_entry av (n := maxL) hlen
  rw [lg_entry_eq]
  subst hsz
  exact body p e s m below meth c _ _ _ ⟨B.exec, B.bytes, hml, hown, hts⟩ B.returns B.notSynchronized hP hK hN hAO (hD0.self) (fun q h => Or.inr h) va_S.rf hl (fun hi => by rw [← hi]; exact (name_of_methodNamed B.named B.method).1)
/-- places, one by one -/
def ad (l : List Nat) : Nat → Nat := fun i => l.getD i 0

set_option maxHeartbeats 4000000 in
set_option maxRecDepth 100000 in
theorem m_X1_init (l9 : Launch) (D : va_G) (k : Nat → ClassId) (sz : Nat) (h : Nat) : Met l9 yX1_init wsX1_init ({ frames := 1, cells := 1, slots := 10, locals := 20 }) (APc D k [.ref h] (bO4 k h .null) sz) (WU D k (fun u9 : Nat → Nat => u9 0 = h) (fun u9 : Nat → Nat => bAcc k u9 (fun _ => 0)) (va_A (bO4 k h .null) sz)) 1 10 (va_A (bO4 k h .null) sz) := by
  refine aMet (y := yX1_init) (cc := cX1_init) (maxL := 1) (ret := none) (Qc := fun A => WU D k (fun u9 : Nat → Nat => u9 0 = h) (fun u9 : Nat → Nat => bAcc k u9 (fun _ => 0)) A) [.ref h] (by decide) rfl (Nat.le_of_ble_eq_true rfl) ?_
  intro p9 e9 s9 m9 bl9 me9 c9 ls A H hF hr hlocks hP hK hN hAO hD hA hS hl hin
  have hl : lv_has ls 1 [(0, .ref h)] := hl
  obtain ⟨hx, hb, hml, hown, hts⟩ := id hF
  have k_fieldLink_9 : (Cond.fieldLink RX1 9 "OpinionReactor$Accepting" "left" "[I").before _ s9 = true := hts (.fieldLink RX1 9 "OpinionReactor$Accepting" "left" "[I") (by decide +kernel)
  have kc_RX1 : ∀ w ∈ u_ws RX1 TX1 1, w ∈ wsX1_init := by decide +kernel
  refine lv_aload_n hx hb dX1_init_0 rfl (lv_at hl 0 rfl) ?_
  refine W.objInit hx hb hown (hts (.methodLink RX1 3 objectInit) (by decide +kernel)) (hts (.instanceMethod objectInit) (by decide +kernel)) (hts (.code objectInit ⟨#[0xb1]⟩ 1 none) (by decide +kernel)) rfl (by rw [hml]; exact hl.1) rfl dX1_init_1 (Nat.le_of_ble_eq_true rfl) (Nat.le_of_ble_eq_true rfl) ?_
  refine W.eq (g2 := F0 m9 4 ls []) rfl ?_
  refine lv_aload_n hx hb dX1_init_4 rfl (lv_at hl 0 rfl) ?_
  refine lv_bipush (v := 10) hx hb dX1_init_5 (by decide) ?_
  refine nw_arr (atype := .int) hx hb (hts (.arrayClass .int) (by decide +kernel)) rfl hK hP hD hS hA (a0 := (10, .inl (fun _ => 0))) (N' := 10) (fun _ => rfl) (by decide) (by decide) (Nat.le_of_ble_eq_true rfl) (Nat.le_of_ble_eq_true rfl) (Nat.le_of_ble_eq_true rfl) 0 rfl dX1_init_7 (fun q_1 H hP hD hS => ?_)
  have hP : va_P D vwCl (bO4 k h .null ++ bI10 k q_1 (fun _ => 0)) H := hP
  have hD : va_D A (bO4 k h .null ++ bI10 k q_1 (fun _ => 0)) := hD
  refine va_putF (D := D) (ci := 4) (v := .ref q_1) (ty := (.array .int)) (C := RX1) (T := TX1) (N := 1) hx hb hts kc_RX1 tyX1 tyX1_ok nmX1 hown hK hP hD hS 0 rfl rfl 0 (by decide) k_fieldLink_9 (fun _ h9 => h9) rfl (hin rfl) rfl (by decide +kernel) rfl rfl (Nat.le_of_ble_eq_true rfl) dX1_init_9 (fun H locs hP hD hS => ?_)
  have hP : va_P D vwCl (bO4 k h (.ref q_1) ++ bI10 k q_1 (fun _ => 0)) H := hP
  have hD : va_D A (bO4 k h (.ref q_1) ++ bI10 k q_1 (fun _ => 0)) := hD
  have hD : va_D A (bO4 k h (.ref q_1) ++ bI10 k q_1 (fun _ => 0)) := hD.sub [0, 1] (by decide) rfl
  have hP : va_P D vwCl (bO4 k h (.ref q_1) ++ bI10 k q_1 (fun _ => 0)) H := hP.sub [0, 1] rfl
  have hP : va_P D vwCl ((fun u9 : Nat → Nat => bAcc k u9 (fun _ => 0)) (ad [h, q_1])) H := hP
  have hD : va_D A ((fun u9 : Nat → Nat => bAcc k u9 (fun _ => 0)) (ad [h, q_1])) := hD
  refine W.widen (k := 1) (n := 10) (Nat.le_of_ble_eq_true rfl) (Nat.le_of_ble_eq_true rfl) ?_
  exact W.vret hx hb hr (fun t9 ht hW => ⟨⟨ad [h, q_1], rfl, rfl, ⟨by rw [ht]; exact hP, va_K.moved hW.alike hK, hD⟩⟩, hS.F ht⟩) hS.2.2 dX1_init_12 hlocks

set_option maxHeartbeats 4000000 in
set_option maxRecDepth 100000 in
theorem m_X4_init (l9 : Launch) (D : va_G) (k : Nat → ClassId) (sz : Nat) (h : Nat) : Met l9 yX4_init wsX4_init ({ frames := 1, cells := 1, slots := 10, locals := 20 }) (APc D k [.ref h] (bO6 k h .null) sz) (WU D k (fun u9 : Nat → Nat => u9 0 = h) (fun u9 : Nat → Nat => bCirc k u9 (fun _ => 0)) (va_A (bO6 k h .null) sz)) 1 10 (va_A (bO6 k h .null) sz) := by
  refine aMet (y := yX4_init) (cc := cX4_init) (maxL := 1) (ret := none) (Qc := fun A => WU D k (fun u9 : Nat → Nat => u9 0 = h) (fun u9 : Nat → Nat => bCirc k u9 (fun _ => 0)) A) [.ref h] (by decide) rfl (Nat.le_of_ble_eq_true rfl) ?_
  intro p9 e9 s9 m9 bl9 me9 c9 ls A H hF hr hlocks hP hK hN hAO hD hA hS hl hin
  have hl : lv_has ls 1 [(0, .ref h)] := hl
  obtain ⟨hx, hb, hml, hown, hts⟩ := id hF
  have k_fieldLink_9 : (Cond.fieldLink RX4 9 "OpinionReactor$Circles" "reached" "[I").before _ s9 = true := hts (.fieldLink RX4 9 "OpinionReactor$Circles" "reached" "[I") (by decide +kernel)
  have kc_RX4 : ∀ w ∈ u_ws RX4 TX4 1, w ∈ wsX4_init := by decide +kernel
  refine lv_aload_n hx hb dX4_init_0 rfl (lv_at hl 0 rfl) ?_
  refine W.objInit hx hb hown (hts (.methodLink RX4 3 objectInit) (by decide +kernel)) (hts (.instanceMethod objectInit) (by decide +kernel)) (hts (.code objectInit ⟨#[0xb1]⟩ 1 none) (by decide +kernel)) rfl (by rw [hml]; exact hl.1) rfl dX4_init_1 (Nat.le_of_ble_eq_true rfl) (Nat.le_of_ble_eq_true rfl) ?_
  refine W.eq (g2 := F0 m9 4 ls []) rfl ?_
  refine lv_aload_n hx hb dX4_init_4 rfl (lv_at hl 0 rfl) ?_
  refine lv_bipush (v := 10) hx hb dX4_init_5 (by decide) ?_
  refine nw_arr (atype := .int) hx hb (hts (.arrayClass .int) (by decide +kernel)) rfl hK hP hD hS hA (a0 := (10, .inl (fun _ => 0))) (N' := 10) (fun _ => rfl) (by decide) (by decide) (Nat.le_of_ble_eq_true rfl) (Nat.le_of_ble_eq_true rfl) (Nat.le_of_ble_eq_true rfl) 0 rfl dX4_init_7 (fun q_1 H hP hD hS => ?_)
  have hP : va_P D vwCl (bO6 k h .null ++ bI10 k q_1 (fun _ => 0)) H := hP
  have hD : va_D A (bO6 k h .null ++ bI10 k q_1 (fun _ => 0)) := hD
  refine va_putF (D := D) (ci := 6) (v := .ref q_1) (ty := (.array .int)) (C := RX4) (T := TX4) (N := 1) hx hb hts kc_RX4 tyX4 tyX4_ok nmX4 hown hK hP hD hS 0 rfl rfl 0 (by decide) k_fieldLink_9 (fun _ h9 => h9) rfl (hin rfl) rfl (by decide +kernel) rfl rfl (Nat.le_of_ble_eq_true rfl) dX4_init_9 (fun H locs hP hD hS => ?_)
  have hP : va_P D vwCl (bO6 k h (.ref q_1) ++ bI10 k q_1 (fun _ => 0)) H := hP
  have hD : va_D A (bO6 k h (.ref q_1) ++ bI10 k q_1 (fun _ => 0)) := hD
  have hD : va_D A (bO6 k h (.ref q_1) ++ bI10 k q_1 (fun _ => 0)) := hD.sub [0, 1] (by decide) rfl
  have hP : va_P D vwCl (bO6 k h (.ref q_1) ++ bI10 k q_1 (fun _ => 0)) H := hP.sub [0, 1] rfl
  have hP : va_P D vwCl ((fun u9 : Nat → Nat => bCirc k u9 (fun _ => 0)) (ad [h, q_1])) H := hP
  have hD : va_D A ((fun u9 : Nat → Nat => bCirc k u9 (fun _ => 0)) (ad [h, q_1])) := hD
  refine W.widen (k := 1) (n := 10) (Nat.le_of_ble_eq_true rfl) (Nat.le_of_ble_eq_true rfl) ?_
  exact W.vret hx hb hr (fun t9 ht hW => ⟨⟨ad [h, q_1], rfl, rfl, ⟨by rw [ht]; exact hP, va_K.moved hW.alike hK, hD⟩⟩, hS.F ht⟩) hS.2.2 dX4_init_12 hlocks

set_option maxHeartbeats 4000000 in
set_option maxRecDepth 100000 in
theorem m_X8_init (l9 : Launch) (D : va_G) (k : Nat → ClassId) (sz : Nat) (h : Nat) : Met l9 yX8_init wsX8_init ({ frames := 1, cells := 2, slots := 32, locals := 20 }) (APc D k [.ref h] (bO9 k h .null .null (.int 0) (.int 0)) sz) (WU D k (fun u9 : Nat → Nat => u9 0 = h) (fun u9 : Nat → Nat => bLog k u9 (fun _ => 0) (fun _ => 0) 0 0) (va_A (bO9 k h .null .null (.int 0) (.int 0)) sz)) 2 32 (va_A (bO9 k h .null .null (.int 0) (.int 0)) sz) := by
  refine aMet (y := yX8_init) (cc := cX8_init) (maxL := 1) (ret := none) (Qc := fun A => WU D k (fun u9 : Nat → Nat => u9 0 = h) (fun u9 : Nat → Nat => bLog k u9 (fun _ => 0) (fun _ => 0) 0 0) A) [.ref h] (by decide) rfl (Nat.le_of_ble_eq_true rfl) ?_
  intro p9 e9 s9 m9 bl9 me9 c9 ls A H hF hr hlocks hP hK hN hAO hD hA hS hl hin
  have hl : lv_has ls 1 [(0, .ref h)] := hl
  obtain ⟨hx, hb, hml, hown, hts⟩ := id hF
  have k_fieldLink_9 : (Cond.fieldLink RX8 9 "OpinionReactor$Log" "shifts" "[I").before _ s9 = true := hts (.fieldLink RX8 9 "OpinionReactor$Log" "shifts" "[I") (by decide +kernel)
  have kc_RX8 : ∀ w ∈ u_ws RX8 TX8 4, w ∈ wsX8_init := by decide +kernel
  have k_fieldLink_15 : (Cond.fieldLink RX8 15 "OpinionReactor$Log" "kinds" "[C").before _ s9 = true := hts (.fieldLink RX8 15 "OpinionReactor$Log" "kinds" "[C") (by decide +kernel)
  have k_fieldLink_19 : (Cond.fieldLink RX8 19 "OpinionReactor$Log" "count" "I").before _ s9 = true := hts (.fieldLink RX8 19 "OpinionReactor$Log" "count" "I") (by decide +kernel)
  have k_fieldLink_23 : (Cond.fieldLink RX8 23 "OpinionReactor$Log" "next" "I").before _ s9 = true := hts (.fieldLink RX8 23 "OpinionReactor$Log" "next" "I") (by decide +kernel)
  refine lv_aload_n hx hb dX8_init_0 rfl (lv_at hl 0 rfl) ?_
  refine W.objInit hx hb hown (hts (.methodLink RX8 3 objectInit) (by decide +kernel)) (hts (.instanceMethod objectInit) (by decide +kernel)) (hts (.code objectInit ⟨#[0xb1]⟩ 1 none) (by decide +kernel)) rfl (by rw [hml]; exact hl.1) rfl dX8_init_1 (Nat.le_of_ble_eq_true rfl) (Nat.le_of_ble_eq_true rfl) ?_
  refine W.eq (g2 := F0 m9 4 ls []) rfl ?_
  refine lv_aload_n hx hb dX8_init_4 rfl (lv_at hl 0 rfl) ?_
  refine lv_bipush (v := 16) hx hb dX8_init_5 (by decide) ?_
  refine nw_arr (atype := .int) hx hb (hts (.arrayClass .int) (by decide +kernel)) rfl hK hP hD hS hA (a0 := (16, .inl (fun _ => 0))) (N' := 16) (fun _ => rfl) (by decide) (by decide) (Nat.le_of_ble_eq_true rfl) (Nat.le_of_ble_eq_true rfl) (Nat.le_of_ble_eq_true rfl) 0 rfl dX8_init_7 (fun q_1 H hP hD hS => ?_)
  have hP : va_P D vwCl (bO9 k h .null .null (.int 0) (.int 0) ++ bI16 k q_1 (fun _ => 0)) H := hP
  have hD : va_D A (bO9 k h .null .null (.int 0) (.int 0) ++ bI16 k q_1 (fun _ => 0)) := hD
  refine va_putF (D := D) (ci := 9) (v := .ref q_1) (ty := (.array .int)) (C := RX8) (T := TX8) (N := 4) hx hb hts kc_RX8 tyX8 tyX8_ok nmX8 hown hK hP hD hS 0 rfl rfl 0 (by decide) k_fieldLink_9 (fun _ h9 => h9) rfl (hin rfl) rfl (by decide +kernel) rfl rfl (Nat.le_of_ble_eq_true rfl) dX8_init_9 (fun H locs hP hD hS => ?_)
  have hP : va_P D vwCl (bO9 k h (.ref q_1) .null (.int 0) (.int 0) ++ bI16 k q_1 (fun _ => 0)) H := hP
  have hD : va_D A (bO9 k h (.ref q_1) .null (.int 0) (.int 0) ++ bI16 k q_1 (fun _ => 0)) := hD
  refine lv_aload_n hx hb dX8_init_12 rfl (lv_at hl 0 rfl) ?_
  refine lv_bipush (v := 16) hx hb dX8_init_13 (by decide) ?_
  refine nw_arr (atype := .char) hx hb (hts (.arrayClass .char) (by decide +kernel)) rfl hK hP hD hS hA (a0 := (16, .inl (fun _ => 0))) (N' := 16) (fun _ => rfl) (by decide) (by decide) (Nat.le_of_ble_eq_true rfl) (Nat.le_of_ble_eq_true rfl) (Nat.le_of_ble_eq_true rfl) 1 rfl dX8_init_15 (fun q_2 H hP hD hS => ?_)
  have hP : va_P D vwCl (bO9 k h (.ref q_1) .null (.int 0) (.int 0) ++ bI16 k q_1 (fun _ => 0) ++ bC16 k q_2 (fun _ => 0)) H := hP
  have hD : va_D A (bO9 k h (.ref q_1) .null (.int 0) (.int 0) ++ bI16 k q_1 (fun _ => 0) ++ bC16 k q_2 (fun _ => 0)) := hD
  refine va_putF (D := D) (ci := 9) (v := .ref q_2) (ty := (.array .char)) (C := RX8) (T := TX8) (N := 4) hx hb hts kc_RX8 tyX8 tyX8_ok nmX8 hown hK hP hD hS 0 rfl rfl 1 (by decide) k_fieldLink_15 (fun _ h9 => h9) rfl (hin rfl) rfl (by decide +kernel) rfl rfl (Nat.le_of_ble_eq_true rfl) dX8_init_17 (fun H locs hP hD hS => ?_)
  have hP : va_P D vwCl (bO9 k h (.ref q_1) (.ref q_2) (.int 0) (.int 0) ++ bI16 k q_1 (fun _ => 0) ++ bC16 k q_2 (fun _ => 0)) H := hP
  have hD : va_D A (bO9 k h (.ref q_1) (.ref q_2) (.int 0) (.int 0) ++ bI16 k q_1 (fun _ => 0) ++ bC16 k q_2 (fun _ => 0)) := hD
  refine lv_aload_n hx hb dX8_init_20 rfl (lv_at hl 0 rfl) ?_
  refine lv_iconst (v := 0) hx hb dX8_init_21 (by decide) ?_
  refine va_put (D := D) (ci := 9) (v := .int 0) (ty := .int) (C := RX8) (T := TX8) (N := 4) hx hb hts kc_RX8 tyX8 tyX8_ok nmX8 hown hK hP hD hS 0 rfl rfl 2 (by decide) k_fieldLink_19 (fun _ h9 => h9) rfl (by decide +kernel) rfl rfl (Nat.le_of_ble_eq_true rfl) dX8_init_22 (fun H locs hP hD hS => ?_)
  have hP : va_P D vwCl (bO9 k h (.ref q_1) (.ref q_2) (.int 0) (.int 0) ++ bI16 k q_1 (fun _ => 0) ++ bC16 k q_2 (fun _ => 0)) H := hP
  have hD : va_D A (bO9 k h (.ref q_1) (.ref q_2) (.int 0) (.int 0) ++ bI16 k q_1 (fun _ => 0) ++ bC16 k q_2 (fun _ => 0)) := hD
  refine lv_aload_n hx hb dX8_init_25 rfl (lv_at hl 0 rfl) ?_
  refine lv_iconst (v := 0) hx hb dX8_init_26 (by decide) ?_
  refine va_put (D := D) (ci := 9) (v := .int 0) (ty := .int) (C := RX8) (T := TX8) (N := 4) hx hb hts kc_RX8 tyX8 tyX8_ok nmX8 hown hK hP hD hS 0 rfl rfl 3 (by decide) k_fieldLink_23 (fun _ h9 => h9) rfl (by decide +kernel) rfl rfl (Nat.le_of_ble_eq_true rfl) dX8_init_27 (fun H locs hP hD hS => ?_)
  have hP : va_P D vwCl (bO9 k h (.ref q_1) (.ref q_2) (.int 0) (.int 0) ++ bI16 k q_1 (fun _ => 0) ++ bC16 k q_2 (fun _ => 0)) H := hP
  have hD : va_D A (bO9 k h (.ref q_1) (.ref q_2) (.int 0) (.int 0) ++ bI16 k q_1 (fun _ => 0) ++ bC16 k q_2 (fun _ => 0)) := hD
  have hD : va_D A (bO9 k h (.ref q_1) (.ref q_2) (.int 0) (.int 0) ++ bI16 k q_1 (fun _ => 0) ++ bC16 k q_2 (fun _ => 0)) := hD.sub [0, 1, 2] (by decide) rfl
  have hP : va_P D vwCl (bO9 k h (.ref q_1) (.ref q_2) (.int 0) (.int 0) ++ bI16 k q_1 (fun _ => 0) ++ bC16 k q_2 (fun _ => 0)) H := hP.sub [0, 1, 2] rfl
  have hP : va_P D vwCl ((fun u9 : Nat → Nat => bLog k u9 (fun _ => 0) (fun _ => 0) 0 0) (ad [h, q_1, q_2])) H := hP
  have hD : va_D A ((fun u9 : Nat → Nat => bLog k u9 (fun _ => 0) (fun _ => 0) 0 0) (ad [h, q_1, q_2])) := hD
  refine W.widen (k := 2) (n := 32) (Nat.le_of_ble_eq_true rfl) (Nat.le_of_ble_eq_true rfl) ?_
  exact W.vret hx hb hr (fun t9 ht hW => ⟨⟨ad [h, q_1, q_2], rfl, rfl, ⟨by rw [ht]; exact hP, va_K.moved hW.alike hK, hD⟩⟩, hS.F ht⟩) hS.2.2 dX8_init_30 hlocks

set_option maxHeartbeats 4000000 in
set_option maxRecDepth 100000 in
theorem m_X5_init (l9 : Launch) (D : va_G) (k : Nat → ClassId) (sz : Nat) (h : Nat) : Met l9 yX5_init wsX5_init ({ frames := 1, cells := 5, slots := 50, locals := 20 }) (APc D k [.ref h] (bO7 k h (.int 0) .null .null .null .null .null) sz) (WU D k (fun u9 : Nat → Nat => u9 0 = h) (fun u9 : Nat → Nat => bClaims k u9 0 (fun _ => 0) (fun _ => 0) (fun _ => 0) (fun _ => 0) (fun _ => FP.fconst0)) (va_A (bO7 k h (.int 0) .null .null .null .null .null) sz)) 5 50 (va_A (bO7 k h (.int 0) .null .null .null .null .null) sz) := by
  refine aMet (y := yX5_init) (cc := cX5_init) (maxL := 1) (ret := none) (Qc := fun A => WU D k (fun u9 : Nat → Nat => u9 0 = h) (fun u9 : Nat → Nat => bClaims k u9 0 (fun _ => 0) (fun _ => 0) (fun _ => 0) (fun _ => 0) (fun _ => FP.fconst0)) A) [.ref h] (by decide) rfl (Nat.le_of_ble_eq_true rfl) ?_
  intro p9 e9 s9 m9 bl9 me9 c9 ls A H hF hr hlocks hP hK hN hAO hD hA hS hl hin
  have hl : lv_has ls 1 [(0, .ref h)] := hl
  obtain ⟨hx, hb, hml, hown, hts⟩ := id hF
  have k_fieldLink_9 : (Cond.fieldLink RX5 9 "OpinionReactor$Claims" "count" "I").before _ s9 = true := hts (.fieldLink RX5 9 "OpinionReactor$Claims" "count" "I") (by decide +kernel)
  have kc_RX5 : ∀ w ∈ u_ws RX5 TX5 6, w ∈ wsX5_init := by decide +kernel
  have k_fieldLink_15 : (Cond.fieldLink RX5 15 "OpinionReactor$Claims" "weights" "[I").before _ s9 = true := hts (.fieldLink RX5 15 "OpinionReactor$Claims" "weights" "[I") (by decide +kernel)
  have k_fieldLink_19 : (Cond.fieldLink RX5 19 "OpinionReactor$Claims" "layers" "[I").before _ s9 = true := hts (.fieldLink RX5 19 "OpinionReactor$Claims" "layers" "[I") (by decide +kernel)
  have k_fieldLink_22 : (Cond.fieldLink RX5 22 "OpinionReactor$Claims" "targets" "[I").before _ s9 = true := hts (.fieldLink RX5 22 "OpinionReactor$Claims" "targets" "[I") (by decide +kernel)
  have k_fieldLink_25 : (Cond.fieldLink RX5 25 "OpinionReactor$Claims" "attackers" "[I").before _ s9 = true := hts (.fieldLink RX5 25 "OpinionReactor$Claims" "attackers" "[I") (by decide +kernel)
  have k_fieldLink_28 : (Cond.fieldLink RX5 28 "OpinionReactor$Claims" "fluxes" "[F").before _ s9 = true := hts (.fieldLink RX5 28 "OpinionReactor$Claims" "fluxes" "[F") (by decide +kernel)
  refine lv_aload_n hx hb dX5_init_0 rfl (lv_at hl 0 rfl) ?_
  refine W.objInit hx hb hown (hts (.methodLink RX5 3 objectInit) (by decide +kernel)) (hts (.instanceMethod objectInit) (by decide +kernel)) (hts (.code objectInit ⟨#[0xb1]⟩ 1 none) (by decide +kernel)) rfl (by rw [hml]; exact hl.1) rfl dX5_init_1 (Nat.le_of_ble_eq_true rfl) (Nat.le_of_ble_eq_true rfl) ?_
  refine W.eq (g2 := F0 m9 4 ls []) rfl ?_
  refine lv_aload_n hx hb dX5_init_4 rfl (lv_at hl 0 rfl) ?_
  refine lv_iconst (v := 0) hx hb dX5_init_5 (by decide) ?_
  refine va_put (D := D) (ci := 7) (v := .int 0) (ty := .int) (C := RX5) (T := TX5) (N := 6) hx hb hts kc_RX5 tyX5 tyX5_ok nmX5 hown hK hP hD hS 0 rfl rfl 0 (by decide) k_fieldLink_9 (fun _ h9 => h9) rfl (by decide +kernel) rfl rfl (Nat.le_of_ble_eq_true rfl) dX5_init_6 (fun H locs hP hD hS => ?_)
  have hP : va_P D vwCl (bO7 k h (.int 0) .null .null .null .null .null) H := hP
  have hD : va_D A (bO7 k h (.int 0) .null .null .null .null .null) := hD
  refine lv_aload_n hx hb dX5_init_9 rfl (lv_at hl 0 rfl) ?_
  refine lv_bipush (v := 10) hx hb dX5_init_10 (by decide) ?_
  refine nw_arr (atype := .int) hx hb (hts (.arrayClass .int) (by decide +kernel)) rfl hK hP hD hS hA (a0 := (10, .inl (fun _ => 0))) (N' := 10) (fun _ => rfl) (by decide) (by decide) (Nat.le_of_ble_eq_true rfl) (Nat.le_of_ble_eq_true rfl) (Nat.le_of_ble_eq_true rfl) 0 rfl dX5_init_12 (fun q_1 H hP hD hS => ?_)
  have hP : va_P D vwCl (bO7 k h (.int 0) .null .null .null .null .null ++ bI10 k q_1 (fun _ => 0)) H := hP
  have hD : va_D A (bO7 k h (.int 0) .null .null .null .null .null ++ bI10 k q_1 (fun _ => 0)) := hD
  refine va_putF (D := D) (ci := 7) (v := .ref q_1) (ty := (.array .int)) (C := RX5) (T := TX5) (N := 6) hx hb hts kc_RX5 tyX5 tyX5_ok nmX5 hown hK hP hD hS 0 rfl rfl 1 (by decide) k_fieldLink_15 (fun _ h9 => h9) rfl (hin rfl) rfl (by decide +kernel) rfl rfl (Nat.le_of_ble_eq_true rfl) dX5_init_14 (fun H locs hP hD hS => ?_)
  have hP : va_P D vwCl (bO7 k h (.int 0) (.ref q_1) .null .null .null .null ++ bI10 k q_1 (fun _ => 0)) H := hP
  have hD : va_D A (bO7 k h (.int 0) (.ref q_1) .null .null .null .null ++ bI10 k q_1 (fun _ => 0)) := hD
  refine lv_aload_n hx hb dX5_init_17 rfl (lv_at hl 0 rfl) ?_
  refine lv_bipush (v := 10) hx hb dX5_init_18 (by decide) ?_
  refine nw_arr (atype := .int) hx hb (hts (.arrayClass .int) (by decide +kernel)) rfl hK hP hD hS hA (a0 := (10, .inl (fun _ => 0))) (N' := 10) (fun _ => rfl) (by decide) (by decide) (Nat.le_of_ble_eq_true rfl) (Nat.le_of_ble_eq_true rfl) (Nat.le_of_ble_eq_true rfl) 0 rfl dX5_init_20 (fun q_2 H hP hD hS => ?_)
  have hP : va_P D vwCl (bO7 k h (.int 0) (.ref q_1) .null .null .null .null ++ bI10 k q_1 (fun _ => 0) ++ bI10 k q_2 (fun _ => 0)) H := hP
  have hD : va_D A (bO7 k h (.int 0) (.ref q_1) .null .null .null .null ++ bI10 k q_1 (fun _ => 0) ++ bI10 k q_2 (fun _ => 0)) := hD
  refine va_putF (D := D) (ci := 7) (v := .ref q_2) (ty := (.array .int)) (C := RX5) (T := TX5) (N := 6) hx hb hts kc_RX5 tyX5 tyX5_ok nmX5 hown hK hP hD hS 0 rfl rfl 2 (by decide) k_fieldLink_19 (fun _ h9 => h9) rfl (hin rfl) rfl (by decide +kernel) rfl rfl (Nat.le_of_ble_eq_true rfl) dX5_init_22 (fun H locs hP hD hS => ?_)
  have hP : va_P D vwCl (bO7 k h (.int 0) (.ref q_1) (.ref q_2) .null .null .null ++ bI10 k q_1 (fun _ => 0) ++ bI10 k q_2 (fun _ => 0)) H := hP
  have hD : va_D A (bO7 k h (.int 0) (.ref q_1) (.ref q_2) .null .null .null ++ bI10 k q_1 (fun _ => 0) ++ bI10 k q_2 (fun _ => 0)) := hD
  refine lv_aload_n hx hb dX5_init_25 rfl (lv_at hl 0 rfl) ?_
  refine lv_bipush (v := 10) hx hb dX5_init_26 (by decide) ?_
  refine nw_arr (atype := .int) hx hb (hts (.arrayClass .int) (by decide +kernel)) rfl hK hP hD hS hA (a0 := (10, .inl (fun _ => 0))) (N' := 10) (fun _ => rfl) (by decide) (by decide) (Nat.le_of_ble_eq_true rfl) (Nat.le_of_ble_eq_true rfl) (Nat.le_of_ble_eq_true rfl) 0 rfl dX5_init_28 (fun q_3 H hP hD hS => ?_)
  have hP : va_P D vwCl (bO7 k h (.int 0) (.ref q_1) (.ref q_2) .null .null .null ++ bI10 k q_1 (fun _ => 0) ++ bI10 k q_2 (fun _ => 0) ++ bI10 k q_3 (fun _ => 0)) H := hP
  have hD : va_D A (bO7 k h (.int 0) (.ref q_1) (.ref q_2) .null .null .null ++ bI10 k q_1 (fun _ => 0) ++ bI10 k q_2 (fun _ => 0) ++ bI10 k q_3 (fun _ => 0)) := hD
  refine va_putF (D := D) (ci := 7) (v := .ref q_3) (ty := (.array .int)) (C := RX5) (T := TX5) (N := 6) hx hb hts kc_RX5 tyX5 tyX5_ok nmX5 hown hK hP hD hS 0 rfl rfl 3 (by decide) k_fieldLink_22 (fun _ h9 => h9) rfl (hin rfl) rfl (by decide +kernel) rfl rfl (Nat.le_of_ble_eq_true rfl) dX5_init_30 (fun H locs hP hD hS => ?_)
  have hP : va_P D vwCl (bO7 k h (.int 0) (.ref q_1) (.ref q_2) (.ref q_3) .null .null ++ bI10 k q_1 (fun _ => 0) ++ bI10 k q_2 (fun _ => 0) ++ bI10 k q_3 (fun _ => 0)) H := hP
  have hD : va_D A (bO7 k h (.int 0) (.ref q_1) (.ref q_2) (.ref q_3) .null .null ++ bI10 k q_1 (fun _ => 0) ++ bI10 k q_2 (fun _ => 0) ++ bI10 k q_3 (fun _ => 0)) := hD
  refine lv_aload_n hx hb dX5_init_33 rfl (lv_at hl 0 rfl) ?_
  refine lv_bipush (v := 10) hx hb dX5_init_34 (by decide) ?_
  refine nw_arr (atype := .int) hx hb (hts (.arrayClass .int) (by decide +kernel)) rfl hK hP hD hS hA (a0 := (10, .inl (fun _ => 0))) (N' := 10) (fun _ => rfl) (by decide) (by decide) (Nat.le_of_ble_eq_true rfl) (Nat.le_of_ble_eq_true rfl) (Nat.le_of_ble_eq_true rfl) 0 rfl dX5_init_36 (fun q_4 H hP hD hS => ?_)
  have hP : va_P D vwCl (bO7 k h (.int 0) (.ref q_1) (.ref q_2) (.ref q_3) .null .null ++ bI10 k q_1 (fun _ => 0) ++ bI10 k q_2 (fun _ => 0) ++ bI10 k q_3 (fun _ => 0) ++ bI10 k q_4 (fun _ => 0)) H := hP
  have hD : va_D A (bO7 k h (.int 0) (.ref q_1) (.ref q_2) (.ref q_3) .null .null ++ bI10 k q_1 (fun _ => 0) ++ bI10 k q_2 (fun _ => 0) ++ bI10 k q_3 (fun _ => 0) ++ bI10 k q_4 (fun _ => 0)) := hD
  refine va_putF (D := D) (ci := 7) (v := .ref q_4) (ty := (.array .int)) (C := RX5) (T := TX5) (N := 6) hx hb hts kc_RX5 tyX5 tyX5_ok nmX5 hown hK hP hD hS 0 rfl rfl 4 (by decide) k_fieldLink_25 (fun _ h9 => h9) rfl (hin rfl) rfl (by decide +kernel) rfl rfl (Nat.le_of_ble_eq_true rfl) dX5_init_38 (fun H locs hP hD hS => ?_)
  have hP : va_P D vwCl (bO7 k h (.int 0) (.ref q_1) (.ref q_2) (.ref q_3) (.ref q_4) .null ++ bI10 k q_1 (fun _ => 0) ++ bI10 k q_2 (fun _ => 0) ++ bI10 k q_3 (fun _ => 0) ++ bI10 k q_4 (fun _ => 0)) H := hP
  have hD : va_D A (bO7 k h (.int 0) (.ref q_1) (.ref q_2) (.ref q_3) (.ref q_4) .null ++ bI10 k q_1 (fun _ => 0) ++ bI10 k q_2 (fun _ => 0) ++ bI10 k q_3 (fun _ => 0) ++ bI10 k q_4 (fun _ => 0)) := hD
  refine lv_aload_n hx hb dX5_init_41 rfl (lv_at hl 0 rfl) ?_
  refine lv_bipush (v := 10) hx hb dX5_init_42 (by decide) ?_
  refine nw_arr (atype := .float) hx hb (hts (.arrayClass .float) (by decide +kernel)) rfl hK hP hD hS hA (a0 := (10, .inr (.inr (.inl (fun _ => FP.fconst0))))) (N' := 10) (fun _ => rfl) (by decide) (by decide) (Nat.le_of_ble_eq_true rfl) (Nat.le_of_ble_eq_true rfl) (Nat.le_of_ble_eq_true rfl) 2 rfl dX5_init_44 (fun q_5 H hP hD hS => ?_)
  have hP : va_P D vwCl (bO7 k h (.int 0) (.ref q_1) (.ref q_2) (.ref q_3) (.ref q_4) .null ++ bI10 k q_1 (fun _ => 0) ++ bI10 k q_2 (fun _ => 0) ++ bI10 k q_3 (fun _ => 0) ++ bI10 k q_4 (fun _ => 0) ++ bF10 k q_5 (fun _ => FP.fconst0)) H := hP
  have hD : va_D A (bO7 k h (.int 0) (.ref q_1) (.ref q_2) (.ref q_3) (.ref q_4) .null ++ bI10 k q_1 (fun _ => 0) ++ bI10 k q_2 (fun _ => 0) ++ bI10 k q_3 (fun _ => 0) ++ bI10 k q_4 (fun _ => 0) ++ bF10 k q_5 (fun _ => FP.fconst0)) := hD
  refine va_putF (D := D) (ci := 7) (v := .ref q_5) (ty := (.array .float)) (C := RX5) (T := TX5) (N := 6) hx hb hts kc_RX5 tyX5 tyX5_ok nmX5 hown hK hP hD hS 0 rfl rfl 5 (by decide) k_fieldLink_28 (fun _ h9 => h9) rfl (hin rfl) rfl (by decide +kernel) rfl rfl (Nat.le_of_ble_eq_true rfl) dX5_init_46 (fun H locs hP hD hS => ?_)
  have hP : va_P D vwCl (bO7 k h (.int 0) (.ref q_1) (.ref q_2) (.ref q_3) (.ref q_4) (.ref q_5) ++ bI10 k q_1 (fun _ => 0) ++ bI10 k q_2 (fun _ => 0) ++ bI10 k q_3 (fun _ => 0) ++ bI10 k q_4 (fun _ => 0) ++ bF10 k q_5 (fun _ => FP.fconst0)) H := hP
  have hD : va_D A (bO7 k h (.int 0) (.ref q_1) (.ref q_2) (.ref q_3) (.ref q_4) (.ref q_5) ++ bI10 k q_1 (fun _ => 0) ++ bI10 k q_2 (fun _ => 0) ++ bI10 k q_3 (fun _ => 0) ++ bI10 k q_4 (fun _ => 0) ++ bF10 k q_5 (fun _ => FP.fconst0)) := hD
  have hD : va_D A (bO7 k h (.int 0) (.ref q_1) (.ref q_2) (.ref q_3) (.ref q_4) (.ref q_5) ++ bI10 k q_1 (fun _ => 0) ++ bI10 k q_2 (fun _ => 0) ++ bI10 k q_3 (fun _ => 0) ++ bI10 k q_4 (fun _ => 0) ++ bF10 k q_5 (fun _ => FP.fconst0)) := hD.sub [0, 1, 2, 3, 4, 5] (by decide) rfl
  have hP : va_P D vwCl (bO7 k h (.int 0) (.ref q_1) (.ref q_2) (.ref q_3) (.ref q_4) (.ref q_5) ++ bI10 k q_1 (fun _ => 0) ++ bI10 k q_2 (fun _ => 0) ++ bI10 k q_3 (fun _ => 0) ++ bI10 k q_4 (fun _ => 0) ++ bF10 k q_5 (fun _ => FP.fconst0)) H := hP.sub [0, 1, 2, 3, 4, 5] rfl
  have hP : va_P D vwCl ((fun u9 : Nat → Nat => bClaims k u9 0 (fun _ => 0) (fun _ => 0) (fun _ => 0) (fun _ => 0) (fun _ => FP.fconst0)) (ad [h, q_1, q_2, q_3, q_4, q_5])) H := hP
  have hD : va_D A ((fun u9 : Nat → Nat => bClaims k u9 0 (fun _ => 0) (fun _ => 0) (fun _ => 0) (fun _ => 0) (fun _ => FP.fconst0)) (ad [h, q_1, q_2, q_3, q_4, q_5])) := hD
  refine W.widen (k := 5) (n := 50) (Nat.le_of_ble_eq_true rfl) (Nat.le_of_ble_eq_true rfl) ?_
  exact W.vret hx hb hr (fun t9 ht hW => ⟨⟨ad [h, q_1, q_2, q_3, q_4, q_5], rfl, rfl, ⟨by rw [ht]; exact hP, va_K.moved hW.alike hK, hD⟩⟩, hS.F ht⟩) hS.2.2 dX5_init_49 hlocks

set_option maxHeartbeats 4000000 in
set_option maxRecDepth 100000 in
theorem m_X10_init (l9 : Launch) (D : va_G) (k : Nat → ClassId) (sz : Nat) (h : Nat) : Met l9 yX10_init wsX10_init ({ frames := 1, cells := 2, slots := 16, locals := 20 }) (APc D k [.ref h] (bO10 k h .null .null) sz) (WU D k (fun u9 : Nat → Nat => u9 0 = h) (fun u9 : Nat → Nat => bRacks k u9 (fun _ => 97) (fun _ => 46)) (va_A (bO10 k h .null .null) sz)) 2 16 (va_A (bO10 k h .null .null) sz) := by
  refine aMet (y := yX10_init) (cc := cX10_init) (maxL := 2) (ret := none) (Qc := fun A => WU D k (fun u9 : Nat → Nat => u9 0 = h) (fun u9 : Nat → Nat => bRacks k u9 (fun _ => 97) (fun _ => 46)) A) [.ref h] (by decide) rfl (Nat.le_of_ble_eq_true rfl) ?_
  intro p9 e9 s9 m9 bl9 me9 c9 ls A H hF hr hlocks hP hK hN hAO hD hA hS hl hin
  have hl : lv_has ls 2 [(0, .ref h)] := hl
  obtain ⟨hx, hb, hml, hown, hts⟩ := id hF
  have k_fieldLink_15 : (Cond.fieldLink RX10 15 "OpinionReactor$Racks" "remarks" "[C").before _ s9 = true := hts (.fieldLink RX10 15 "OpinionReactor$Racks" "remarks" "[C") (by decide +kernel)
  have kc_RX10 : ∀ w ∈ u_ws RX10 TX10 2, w ∈ wsX10_init := by decide +kernel
  have k_fieldLink_9 : (Cond.fieldLink RX10 9 "OpinionReactor$Racks" "kinds" "[C").before _ s9 = true := hts (.fieldLink RX10 9 "OpinionReactor$Racks" "kinds" "[C") (by decide +kernel)
  have loop_46 : ∀ (fuel : Nat) (q_1 q_2 i : Nat), (i ≤ 12) → 12 - i < fuel → ∀ (ls : Array Slot), ∀ (H : Heap) (locs : List Loc), va_P D vwCl (bO10 k h (.ref q_1) (.ref q_2) ++ bC4 k q_1 (fun _ => 97) ++ bC12 k q_2 (fil (fun _ => 0) (fun _ => 46) i)) H → va_D A (bO10 k h (.ref q_1) (.ref q_2) ++ bC4 k q_1 (fun _ => 97) ++ bC12 k q_2 (fil (fun _ => 0) (fun _ => 46) i)) → va_S A s9.heap H locs → lv_has ls 2 [(0, .ref h), (1, .int (nI i))] → W p9 l9 e9 ({ frames := 1, cells := 2, slots := 16, locals := 20 }) s9 m9 ([.ref h] : List Value).toArray bl9 me9 c9 H locs 2 16 (MQ bl9 (WU D k (fun u9 : Nat → Nat => u9 0 = h) (fun u9 : Nat → Nat => bRacks k u9 (fun _ => 97) (fun _ => 46)) A) ([.ref h] : List Value).toArray s9 2 16 A) (F0 m9 46 ls []) := by
    intro fuel
    induction fuel with
    | zero => intro q_1 q_2 i hi hfuel_46; exact absurd hfuel_46 (Nat.not_lt_zero _)
    | succ fuel ih_46 =>
      intro q_1 q_2 i hi hfuel_46 ls H locs hP hD hS hl
      refine lv_iload_n hx hb dX10_init_46 rfl (lv_at hl 1 rfl) ?_
      refine lv_aload_n hx hb dX10_init_47 rfl (lv_at hl 0 rfl) ?_
      refine va_get (D := D) (ci := 10) (v := .ref q_2) (C := RX10) (T := TX10) (N := 2) hx hb hts kc_RX10 hown hK hP 0 rfl rfl 1 (by decide) k_fieldLink_15 (fun _ h9 => h9) rfl dX10_init_48 ?_
      refine va_alen (v := 12) hx hb hK hP 2 1 rfl rfl rfl dX10_init_51 ?_
      refine lv_icmp_ge (tgt := 69) hx hb dX10_init_52 (by decide) (fun c_1 => ?_) (fun c_1 => ?_)
      · skip
        have c_1 : 12 ≤ i := (nI_leI (a := 12) (b := i) (by omega) (by omega)).mp c_1
        obtain ⟨hP, hD⟩ := ext_i hP hD 2 rfl (g := (fun _ => 46)) (fun j hj => fil_in (by omega))
        have hP : va_P D vwCl (bO10 k h (.ref q_1) (.ref q_2) ++ bC4 k q_1 (fun _ => 97) ++ bC12 k q_2 (fun _ => 46)) H := hP
        have hD : va_D A (bO10 k h (.ref q_1) (.ref q_2) ++ bC4 k q_1 (fun _ => 97) ++ bC12 k q_2 (fun _ => 46)) := hD
        have hD : va_D A (bO10 k h (.ref q_1) (.ref q_2) ++ bC4 k q_1 (fun _ => 97) ++ bC12 k q_2 (fun _ => 46)) := hD.sub [0, 1, 2] (by decide) rfl
        have hP : va_P D vwCl (bO10 k h (.ref q_1) (.ref q_2) ++ bC4 k q_1 (fun _ => 97) ++ bC12 k q_2 (fun _ => 46)) H := hP.sub [0, 1, 2] rfl
        have hP : va_P D vwCl ((fun u9 : Nat → Nat => bRacks k u9 (fun _ => 97) (fun _ => 46)) (ad [h, q_1, q_2])) H := hP
        have hD : va_D A ((fun u9 : Nat → Nat => bRacks k u9 (fun _ => 97) (fun _ => 46)) (ad [h, q_1, q_2])) := hD
        refine W.widen (k := 2) (n := 16) (Nat.le_of_ble_eq_true rfl) (Nat.le_of_ble_eq_true rfl) ?_
        exact W.vret hx hb hr (fun t9 ht hW => ⟨⟨ad [h, q_1, q_2], rfl, rfl, ⟨by rw [ht]; exact hP, va_K.moved hW.alike hK, hD⟩⟩, hS.F ht⟩) hS.2.2 dX10_init_69 hlocks
      · skip
        have c_1 : ¬ 12 ≤ i := fun h => c_1 ((nI_leI (a := 12) (b := i) (by omega) (by omega)).mpr h)
        refine lv_aload_n hx hb dX10_init_55 rfl (lv_at hl 0 rfl) ?_
        refine va_get (D := D) (ci := 10) (v := .ref q_2) (C := RX10) (T := TX10) (N := 2) hx hb hts kc_RX10 hown hK hP 0 rfl rfl 1 (by decide) k_fieldLink_15 (fun _ h9 => h9) rfl dX10_init_56 ?_
        refine lv_iload_n hx hb dX10_init_59 rfl (lv_at hl 1 rfl) ?_
        refine lv_bipush (v := 46) hx hb dX10_init_60 (by decide) ?_
        refine ca_st hx hb hK hP hD hS 2 rfl i (by omega) (by decide) rfl (bO10 k h (.ref q_1) (.ref q_2) ++ bC4 k q_1 (fun _ => 97) ++ bC12 k q_2 (upd (fil (fun _ => 0) (fun _ => 46) i) i 46)) rfl dX10_init_62 (fun H locs hP hD hS => ?_)
        refine lv_iinc (v := nI (i + 1)) (lv' := [(1, .int (nI (i + 1))), (0, .ref h)]) hx hb dX10_init_63 hl (k := 1) rfl (nI_inc i) (by decide) rfl (fun ls hl => ?_)
        refine lv_goto (tgt := 46) hx hb dX10_init_66 (by decide) ?_
        have e_2 : (upd (fil (fun _ => 0) (fun _ => 46) i) i 46 : Nat → Int32) = fil (fun _ => 0) (fun _ => 46) (i + 1) := by first | (with_reducible rfl) | (exact fil_u (fun _ => 0) (fun _ => 46) i)
        have hP := Eq.mp (congrArg (fun z9 => va_P D vwCl (bO10 k h (.ref q_1) (.ref q_2) ++ bC4 k q_1 (fun _ => 97) ++ bC12 k q_2 z9) H) e_2) hP
        have hD := Eq.mp (congrArg (fun z9 => va_D A (bO10 k h (.ref q_1) (.ref q_2) ++ bC4 k q_1 (fun _ => 97) ++ bC12 k q_2 z9)) e_2) hD
        refine W.widen (k := 2) (n := 16) (Nat.le_of_ble_eq_true rfl) (Nat.le_of_ble_eq_true rfl) ?_
        exact ih_46 q_1 q_2 (i + 1) (by omega) (by omega) ls _ _ hP hD hS (lv_one hl 1 rfl rfl (lv_one hl 0 rfl rfl (lv_nil hl)))
  have loop_21 : ∀ (fuel : Nat) (q_1 q_2 i : Nat), (i ≤ 4) → 4 - i < fuel → ∀ (ls : Array Slot), ∀ (H : Heap) (locs : List Loc), va_P D vwCl (bO10 k h (.ref q_1) (.ref q_2) ++ bC4 k q_1 (fil (fun _ => 0) (fun _ => 97) i) ++ bC12 k q_2 (fun _ => 0)) H → va_D A (bO10 k h (.ref q_1) (.ref q_2) ++ bC4 k q_1 (fil (fun _ => 0) (fun _ => 97) i) ++ bC12 k q_2 (fun _ => 0)) → va_S A s9.heap H locs → lv_has ls 2 [(0, .ref h), (1, .int (nI i))] → W p9 l9 e9 ({ frames := 1, cells := 2, slots := 16, locals := 20 }) s9 m9 ([.ref h] : List Value).toArray bl9 me9 c9 H locs 2 16 (MQ bl9 (WU D k (fun u9 : Nat → Nat => u9 0 = h) (fun u9 : Nat → Nat => bRacks k u9 (fun _ => 97) (fun _ => 46)) A) ([.ref h] : List Value).toArray s9 2 16 A) (F0 m9 21 ls []) := by
    intro fuel
    induction fuel with
    | zero => intro q_1 q_2 i hi hfuel_21; exact absurd hfuel_21 (Nat.not_lt_zero _)
    | succ fuel ih_21 =>
      intro q_1 q_2 i hi hfuel_21 ls H locs hP hD hS hl
      refine lv_iload_n hx hb dX10_init_21 rfl (lv_at hl 1 rfl) ?_
      refine lv_aload_n hx hb dX10_init_22 rfl (lv_at hl 0 rfl) ?_
      refine va_get (D := D) (ci := 10) (v := .ref q_1) (C := RX10) (T := TX10) (N := 2) hx hb hts kc_RX10 hown hK hP 0 rfl rfl 0 (by decide) k_fieldLink_9 (fun _ h9 => h9) rfl dX10_init_23 ?_
      refine va_alen (v := 4) hx hb hK hP 1 1 rfl rfl rfl dX10_init_26 ?_
      refine lv_icmp_ge (tgt := 44) hx hb dX10_init_27 (by decide) (fun c_3 => ?_) (fun c_3 => ?_)
      · skip
        have c_3 : 4 ≤ i := (nI_leI (a := 4) (b := i) (by omega) (by omega)).mp c_3
        obtain ⟨hP, hD⟩ := ext_i hP hD 1 rfl (g := (fun _ => 97)) (fun j hj => fil_in (by omega))
        have hP : va_P D vwCl (bO10 k h (.ref q_1) (.ref q_2) ++ bC4 k q_1 (fun _ => 97) ++ bC12 k q_2 (fun _ => 0)) H := hP
        have hD : va_D A (bO10 k h (.ref q_1) (.ref q_2) ++ bC4 k q_1 (fun _ => 97) ++ bC12 k q_2 (fun _ => 0)) := hD
        refine lv_iconst (v := 0) hx hb dX10_init_44 (by decide) ?_
        refine lv_istore_n (lv' := [(1, .int 0), (0, .ref h)]) hx hb dX10_init_45 rfl hl (by decide) rfl (fun ls hl => ?_)
        have e_4 : ((fun _ => 0) : Nat → Int32) = fil (fun _ => 0) (fun _ => 46) 0 := by first | (with_reducible rfl) | (exact fil_0 _ _)
        have hP := Eq.mp (congrArg (fun z9 => va_P D vwCl (bO10 k h (.ref q_1) (.ref q_2) ++ bC4 k q_1 (fun _ => 97) ++ bC12 k q_2 z9) H) e_4) hP
        have hD := Eq.mp (congrArg (fun z9 => va_D A (bO10 k h (.ref q_1) (.ref q_2) ++ bC4 k q_1 (fun _ => 97) ++ bC12 k q_2 z9)) e_4) hD
        refine W.widen (k := 2) (n := 16) (Nat.le_of_ble_eq_true rfl) (Nat.le_of_ble_eq_true rfl) ?_
        exact loop_46 ((12 - 0) + 1) q_1 q_2 0 (by omega) (Nat.lt_succ_self _) ls _ _ hP hD hS (lv_one hl 1 rfl rfl (lv_one hl 0 rfl rfl (lv_nil hl)))
      · skip
        have c_3 : ¬ 4 ≤ i := fun h => c_3 ((nI_leI (a := 4) (b := i) (by omega) (by omega)).mpr h)
        refine lv_aload_n hx hb dX10_init_30 rfl (lv_at hl 0 rfl) ?_
        refine va_get (D := D) (ci := 10) (v := .ref q_1) (C := RX10) (T := TX10) (N := 2) hx hb hts kc_RX10 hown hK hP 0 rfl rfl 0 (by decide) k_fieldLink_9 (fun _ h9 => h9) rfl dX10_init_31 ?_
        refine lv_iload_n hx hb dX10_init_34 rfl (lv_at hl 1 rfl) ?_
        refine lv_bipush (v := 97) hx hb dX10_init_35 (by decide) ?_
        refine ca_st hx hb hK hP hD hS 1 rfl i (by omega) (by decide) rfl (bO10 k h (.ref q_1) (.ref q_2) ++ bC4 k q_1 (upd (fil (fun _ => 0) (fun _ => 97) i) i 97) ++ bC12 k q_2 (fun _ => 0)) rfl dX10_init_37 (fun H locs hP hD hS => ?_)
        refine lv_iinc (v := nI (i + 1)) (lv' := [(1, .int (nI (i + 1))), (0, .ref h)]) hx hb dX10_init_38 hl (k := 1) rfl (nI_inc i) (by decide) rfl (fun ls hl => ?_)
        refine lv_goto (tgt := 21) hx hb dX10_init_41 (by decide) ?_
        have e_5 : (upd (fil (fun _ => 0) (fun _ => 97) i) i 97 : Nat → Int32) = fil (fun _ => 0) (fun _ => 97) (i + 1) := by first | (with_reducible rfl) | (exact fil_u (fun _ => 0) (fun _ => 97) i)
        have hP := Eq.mp (congrArg (fun z9 => va_P D vwCl (bO10 k h (.ref q_1) (.ref q_2) ++ bC4 k q_1 z9 ++ bC12 k q_2 (fun _ => 0)) H) e_5) hP
        have hD := Eq.mp (congrArg (fun z9 => va_D A (bO10 k h (.ref q_1) (.ref q_2) ++ bC4 k q_1 z9 ++ bC12 k q_2 (fun _ => 0))) e_5) hD
        refine W.widen (k := 2) (n := 16) (Nat.le_of_ble_eq_true rfl) (Nat.le_of_ble_eq_true rfl) ?_
        exact ih_21 q_1 q_2 (i + 1) (by omega) (by omega) ls _ _ hP hD hS (lv_one hl 1 rfl rfl (lv_one hl 0 rfl rfl (lv_nil hl)))
  refine lv_aload_n hx hb dX10_init_0 rfl (lv_at hl 0 rfl) ?_
  refine W.objInit hx hb hown (hts (.methodLink RX10 3 objectInit) (by decide +kernel)) (hts (.instanceMethod objectInit) (by decide +kernel)) (hts (.code objectInit ⟨#[0xb1]⟩ 1 none) (by decide +kernel)) rfl (by rw [hml]; exact hl.1) rfl dX10_init_1 (Nat.le_of_ble_eq_true rfl) (Nat.le_of_ble_eq_true rfl) ?_
  refine W.eq (g2 := F0 m9 4 ls []) rfl ?_
  refine lv_aload_n hx hb dX10_init_4 rfl (lv_at hl 0 rfl) ?_
  refine lv_iconst (v := 4) hx hb dX10_init_5 (by decide) ?_
  refine nw_arr (atype := .char) hx hb (hts (.arrayClass .char) (by decide +kernel)) rfl hK hP hD hS hA (a0 := (4, .inl (fun _ => 0))) (N' := 4) (fun _ => rfl) (by decide) (by decide) (Nat.le_of_ble_eq_true rfl) (Nat.le_of_ble_eq_true rfl) (Nat.le_of_ble_eq_true rfl) 1 rfl dX10_init_6 (fun q_6 H hP hD hS => ?_)
  have hP : va_P D vwCl (bO10 k h .null .null ++ bC4 k q_6 (fun _ => 0)) H := hP
  have hD : va_D A (bO10 k h .null .null ++ bC4 k q_6 (fun _ => 0)) := hD
  refine va_putF (D := D) (ci := 10) (v := .ref q_6) (ty := (.array .char)) (C := RX10) (T := TX10) (N := 2) hx hb hts kc_RX10 tyX10 tyX10_ok nmX10 hown hK hP hD hS 0 rfl rfl 0 (by decide) k_fieldLink_9 (fun _ h9 => h9) rfl (hin rfl) rfl (by decide +kernel) rfl rfl (Nat.le_of_ble_eq_true rfl) dX10_init_8 (fun H locs hP hD hS => ?_)
  have hP : va_P D vwCl (bO10 k h (.ref q_6) .null ++ bC4 k q_6 (fun _ => 0)) H := hP
  have hD : va_D A (bO10 k h (.ref q_6) .null ++ bC4 k q_6 (fun _ => 0)) := hD
  refine lv_aload_n hx hb dX10_init_11 rfl (lv_at hl 0 rfl) ?_
  refine lv_bipush (v := 12) hx hb dX10_init_12 (by decide) ?_
  refine nw_arr (atype := .char) hx hb (hts (.arrayClass .char) (by decide +kernel)) rfl hK hP hD hS hA (a0 := (12, .inl (fun _ => 0))) (N' := 12) (fun _ => rfl) (by decide) (by decide) (Nat.le_of_ble_eq_true rfl) (Nat.le_of_ble_eq_true rfl) (Nat.le_of_ble_eq_true rfl) 1 rfl dX10_init_14 (fun q_7 H hP hD hS => ?_)
  have hP : va_P D vwCl (bO10 k h (.ref q_6) .null ++ bC4 k q_6 (fun _ => 0) ++ bC12 k q_7 (fun _ => 0)) H := hP
  have hD : va_D A (bO10 k h (.ref q_6) .null ++ bC4 k q_6 (fun _ => 0) ++ bC12 k q_7 (fun _ => 0)) := hD
  refine va_putF (D := D) (ci := 10) (v := .ref q_7) (ty := (.array .char)) (C := RX10) (T := TX10) (N := 2) hx hb hts kc_RX10 tyX10 tyX10_ok nmX10 hown hK hP hD hS 0 rfl rfl 1 (by decide) k_fieldLink_15 (fun _ h9 => h9) rfl (hin rfl) rfl (by decide +kernel) rfl rfl (Nat.le_of_ble_eq_true rfl) dX10_init_16 (fun H locs hP hD hS => ?_)
  have hP : va_P D vwCl (bO10 k h (.ref q_6) (.ref q_7) ++ bC4 k q_6 (fun _ => 0) ++ bC12 k q_7 (fun _ => 0)) H := hP
  have hD : va_D A (bO10 k h (.ref q_6) (.ref q_7) ++ bC4 k q_6 (fun _ => 0) ++ bC12 k q_7 (fun _ => 0)) := hD
  refine lv_iconst (v := 0) hx hb dX10_init_19 (by decide) ?_
  refine lv_istore_n (lv' := [(1, .int 0), (0, .ref h)]) hx hb dX10_init_20 rfl hl (by decide) rfl (fun ls hl => ?_)
  have e_8 : ((fun _ => 0) : Nat → Int32) = fil (fun _ => 0) (fun _ => 97) 0 := by first | (with_reducible rfl) | (exact fil_0 _ _)
  have hP := Eq.mp (congrArg (fun z9 => va_P D vwCl (bO10 k h (.ref q_6) (.ref q_7) ++ bC4 k q_6 z9 ++ bC12 k q_7 (fun _ => 0)) H) e_8) hP
  have hD := Eq.mp (congrArg (fun z9 => va_D A (bO10 k h (.ref q_6) (.ref q_7) ++ bC4 k q_6 z9 ++ bC12 k q_7 (fun _ => 0))) e_8) hD
  refine W.widen (k := 2) (n := 16) (Nat.le_of_ble_eq_true rfl) (Nat.le_of_ble_eq_true rfl) ?_
  exact loop_21 ((4 - 0) + 1) q_6 q_7 0 (by omega) (Nat.lt_succ_self _) ls _ _ hP hD hS (lv_one hl 1 rfl rfl (lv_one hl 0 rfl rfl (lv_nil hl)))

set_option maxHeartbeats 4000000 in
set_option maxRecDepth 100000 in
theorem m_X11_init (l9 : Launch) (D : va_G) (k : Nat → ClassId) (sz : Nat) (h : Nat) : Met l9 yX11_init wsX11_init ({ frames := 2, cells := 13, slots := 120, locals := 41 }) (APc D k [.ref h] (bO11 k h .null .null .null (.int 0) (.int 0) (.int 0) .null) sz) (WU D k (fun u9 : (Nat → Nat) × (Nat → Nat) × (Nat → Nat) × (Nat → Nat) => u9.1 0 = h) (fun u9 : (Nat → Nat) × (Nat → Nat) × (Nat → Nat) × (Nat → Nat) => bSt k u9.1 u9.2.1 u9.2.2.1 u9.2.2.2 1000 0 0 (fun _ => FP.fconst0) ++ bClaims k u9.2.1 0 (fun _ => 0) (fun _ => 0) (fun _ => 0) (fun _ => 0) (fun _ => FP.fconst0) ++ bRacks k u9.2.2.1 (fun _ => 97) (fun _ => 46) ++ bLog k u9.2.2.2 (fun _ => 0) (fun _ => 0) 0 0) (va_A (bO11 k h .null .null .null (.int 0) (.int 0) (.int 0) .null) sz)) 13 120 (va_A (bO11 k h .null .null .null (.int 0) (.int 0) (.int 0) .null) sz) := by
  refine aMet (y := yX11_init) (cc := cX11_init) (maxL := 1) (ret := none) (Qc := fun A => WU D k (fun u9 : (Nat → Nat) × (Nat → Nat) × (Nat → Nat) × (Nat → Nat) => u9.1 0 = h) (fun u9 : (Nat → Nat) × (Nat → Nat) × (Nat → Nat) × (Nat → Nat) => bSt k u9.1 u9.2.1 u9.2.2.1 u9.2.2.2 1000 0 0 (fun _ => FP.fconst0) ++ bClaims k u9.2.1 0 (fun _ => 0) (fun _ => 0) (fun _ => 0) (fun _ => 0) (fun _ => FP.fconst0) ++ bRacks k u9.2.2.1 (fun _ => 97) (fun _ => 46) ++ bLog k u9.2.2.2 (fun _ => 0) (fun _ => 0) 0 0) A) [.ref h] (by decide) rfl (Nat.le_of_ble_eq_true rfl) ?_
  intro p9 e9 s9 m9 bl9 me9 c9 ls A H hF hr hlocks hP hK hN hAO hD hA hS hl hin
  have hl : lv_has ls 1 [(0, .ref h)] := hl
  obtain ⟨hx, hb, hml, hown, hts⟩ := id hF
  have kc_RX5 : ∀ w ∈ u_ws RX5 TX5 6, w ∈ wsX11_init := by decide +kernel
  have k_fieldLink_12 : (Cond.fieldLink RX11 12 "OpinionReactor$State" "claims" "LOpinionReactor$Claims;").before _ s9 = true := hts (.fieldLink RX11 12 "OpinionReactor$State" "claims" "LOpinionReactor$Claims;") (by decide +kernel)
  have kc_RX11 : ∀ w ∈ u_ws RX11 TX11 7, w ∈ wsX11_init := by decide +kernel
  have kc_RX10 : ∀ w ∈ u_ws RX10 TX10 2, w ∈ wsX11_init := by decide +kernel
  have k_fieldLink_21 : (Cond.fieldLink RX11 21 "OpinionReactor$State" "racks" "LOpinionReactor$Racks;").before _ s9 = true := hts (.fieldLink RX11 21 "OpinionReactor$State" "racks" "LOpinionReactor$Racks;") (by decide +kernel)
  have kc_RX8 : ∀ w ∈ u_ws RX8 TX8 4, w ∈ wsX11_init := by decide +kernel
  have k_fieldLink_28 : (Cond.fieldLink RX11 28 "OpinionReactor$State" "log" "LOpinionReactor$Log;").before _ s9 = true := hts (.fieldLink RX11 28 "OpinionReactor$State" "log" "LOpinionReactor$Log;") (by decide +kernel)
  have k_fieldLink_32 : (Cond.fieldLink RX11 32 "OpinionReactor$State" "limit" "I").before _ s9 = true := hts (.fieldLink RX11 32 "OpinionReactor$State" "limit" "I") (by decide +kernel)
  have k_fieldLink_36 : (Cond.fieldLink RX11 36 "OpinionReactor$State" "shifts" "I").before _ s9 = true := hts (.fieldLink RX11 36 "OpinionReactor$State" "shifts" "I") (by decide +kernel)
  have k_fieldLink_39 : (Cond.fieldLink RX11 39 "OpinionReactor$State" "scramCount" "I").before _ s9 = true := hts (.fieldLink RX11 39 "OpinionReactor$State" "scramCount" "I") (by decide +kernel)
  have k_fieldLink_42 : (Cond.fieldLink RX11 42 "OpinionReactor$State" "fresh" "[F").before _ s9 = true := hts (.fieldLink RX11 42 "OpinionReactor$State" "fresh" "[F") (by decide +kernel)
  refine lv_aload_n hx hb dX11_init_0 rfl (lv_at hl 0 rfl) ?_
  refine W.objInit hx hb hown (hts (.methodLink RX11 3 objectInit) (by decide +kernel)) (hts (.instanceMethod objectInit) (by decide +kernel)) (hts (.code objectInit ⟨#[0xb1]⟩ 1 none) (by decide +kernel)) rfl (by rw [hml]; exact hl.1) rfl dX11_init_1 (Nat.le_of_ble_eq_true rfl) (Nat.le_of_ble_eq_true rfl) ?_
  refine W.eq (g2 := F0 m9 4 ls []) rfl ?_
  refine lv_aload_n hx hb dX11_init_4 rfl (lv_at hl 0 rfl) ?_
  refine va_new (ci := 7) (fs := [.int 0, .null, .null, .null, .null, .null]) (C := RX5) (T := TX5) (N := 6) hx hb hts kc_RX5 tyX5 tyX5_ok hown (hts (.classLink RX11 9 RX5) (by decide +kernel)) (hts (.instantiable RX5 6) (by decide +kernel)) (hts (.initialized RX5) (by decide +kernel)) hK hP hD hS hA rfl (fun j hj => by rcases (show j = 0 ∨ j = 1 ∨ j = 2 ∨ j = 3 ∨ j = 4 ∨ j = 5 by omega) with rfl | rfl | rfl | rfl | rfl | rfl <;> rfl) (Nat.le_of_ble_eq_true rfl) (Nat.le_of_ble_eq_true rfl) dX11_init_5 (fun q_1 H hP hD hS => ?_)
  have hP : va_P D vwCl (bO11 k h .null .null .null (.int 0) (.int 0) (.int 0) .null ++ bO7 k q_1 (.int 0) .null .null .null .null .null) H := hP
  have hD : va_D A (bO11 k h .null .null .null (.int 0) (.int 0) (.int 0) .null ++ bO7 k q_1 (.int 0) .null .null .null .null .null) := hD
  refine lv_dup hx hb dX11_init_8 rfl ?_
  have hq9 := mp_of (ws := bO11 k h .null .null .null (.int 0) (.int 0) (.int 0) .null ++ bO7 k q_1 (.int 0) .null .null .null .null .null) (wc := bO7 k q_1 (.int 0) .null .null .null .null .null) (is := [1]) rfl
  have hFc := va_free (wc := bO7 k q_1 (.int 0) .null .null .null .null .null) hD hS hA [1] hq9
  refine va_callv (va_runI (As := []) (rest := [.ref q_1, .ref h]) hF (m_X5_init l9 D k H.size q_1) (cwI 0 hts gX11_init_X5_init rfl rfl rfl (hts (.initialized RX5) (by decide +kernel)) (hts (.methodLink RX11 11 yX5_init) (by decide +kernel)) (hts (.instanceMethod yX5_init) (by decide +kernel)) rfl (by decide +kernel) ⟨Nat.le_of_ble_eq_true rfl, Nat.le_of_ble_eq_true rfl⟩) (aPreS hK hN hAO hP hD [1] (fm_of hq9) (by decide) hq9) rfl rfl hl.1 rfl (lv_room (Nat.le_of_ble_eq_true rfl)) dX11_init_9 ⟨Nat.le_of_ble_eq_true rfl, Nat.le_of_ble_eq_true rfl⟩) hS (fun q _ h => hFc q h) hFc (fun u_2 t9 H1 locs ht hvm hw hB hz1 hk1 hS => ?_)
  replace hB : WB D k (va_A (bO7 k q_1 (.int 0) .null .null .null .null .null) H.size) (bClaims k u_2 0 (fun _ => 0) (fun _ => 0) (fun _ => 0) (fun _ => 0) (fun _ => FP.fconst0)) () t9 := hB
  obtain ⟨hP, hD⟩ := wjoin9 (u := ()) (wr := bO11 k h .null .null .null (.int 0) (.int 0) (.int 0) .null) (wf := bO11 k h .null .null .null (.int 0) (.int 0) (.int 0) .null ++ bClaims k u_2 0 (fun _ => 0) (fun _ => 0) (fun _ => 0) (fun _ => 0) (fun _ => FP.fconst0)) hP hD [1] [0] [0, 1, 2, 3, 4, 5, 6] hq9 rfl (by decide) (by decide) hk1 hFc hB ht rfl (by decide)
  replace hw : u_2 0 = q_1 := hw
  clear hB hk1 hz1 hvm hFc ht hq9
  clear t9
  generalize H1 = H at hP hS ⊢
  subst hw
  have hP : va_P D vwCl (bO11 k h .null .null .null (.int 0) (.int 0) (.int 0) .null ++ bClaims k u_2 0 (fun _ => 0) (fun _ => 0) (fun _ => 0) (fun _ => 0) (fun _ => FP.fconst0)) H := by assumption
  have hD : va_D A (bO11 k h .null .null .null (.int 0) (.int 0) (.int 0) .null ++ bClaims k u_2 0 (fun _ => 0) (fun _ => 0) (fun _ => 0) (fun _ => 0) (fun _ => FP.fconst0)) := by assumption
  have hS : va_S A s9.heap H locs := by assumption
  refine va_putF (D := D) (ci := 11) (v := .ref (u_2 0)) (ty := (.object "OpinionReactor$Claims")) (C := RX11) (T := TX11) (N := 7) hx hb hts kc_RX11 tyX11 tyX11_ok nmX11 hown hK hP hD hS 0 rfl rfl 0 (by decide) k_fieldLink_12 (fun _ h9 => h9) rfl (hin rfl) rfl (by decide +kernel) rfl rfl (Nat.le_of_ble_eq_true rfl) dX11_init_12 (fun H locs hP hD hS => ?_)
  have hP : va_P D vwCl (bO11 k h (.ref (u_2 0)) .null .null (.int 0) (.int 0) (.int 0) .null ++ bClaims k u_2 0 (fun _ => 0) (fun _ => 0) (fun _ => 0) (fun _ => 0) (fun _ => FP.fconst0)) H := hP
  have hD : va_D A (bO11 k h (.ref (u_2 0)) .null .null (.int 0) (.int 0) (.int 0) .null ++ bClaims k u_2 0 (fun _ => 0) (fun _ => 0) (fun _ => 0) (fun _ => 0) (fun _ => FP.fconst0)) := hD
  refine lv_aload_n hx hb dX11_init_15 rfl (lv_at hl 0 rfl) ?_
  refine va_new (ci := 10) (fs := [.null, .null]) (C := RX10) (T := TX10) (N := 2) hx hb hts kc_RX10 tyX10 tyX10_ok hown (hts (.classLink RX11 18 RX10) (by decide +kernel)) (hts (.instantiable RX10 2) (by decide +kernel)) (hts (.initialized RX10) (by decide +kernel)) hK hP hD hS hA rfl (fun j hj => by rcases (show j = 0 ∨ j = 1 by omega) with rfl | rfl <;> rfl) (Nat.le_of_ble_eq_true rfl) (Nat.le_of_ble_eq_true rfl) dX11_init_16 (fun q_3 H hP hD hS => ?_)
  have hP : va_P D vwCl (bO11 k h (.ref (u_2 0)) .null .null (.int 0) (.int 0) (.int 0) .null ++ bClaims k u_2 0 (fun _ => 0) (fun _ => 0) (fun _ => 0) (fun _ => 0) (fun _ => FP.fconst0) ++ bO10 k q_3 .null .null) H := hP
  have hD : va_D A (bO11 k h (.ref (u_2 0)) .null .null (.int 0) (.int 0) (.int 0) .null ++ bClaims k u_2 0 (fun _ => 0) (fun _ => 0) (fun _ => 0) (fun _ => 0) (fun _ => FP.fconst0) ++ bO10 k q_3 .null .null) := hD
  refine lv_dup hx hb dX11_init_19 rfl ?_
  have hq9 := mp_of (ws := bO11 k h (.ref (u_2 0)) .null .null (.int 0) (.int 0) (.int 0) .null ++ bClaims k u_2 0 (fun _ => 0) (fun _ => 0) (fun _ => 0) (fun _ => 0) (fun _ => FP.fconst0) ++ bO10 k q_3 .null .null) (wc := bO10 k q_3 .null .null) (is := [7]) rfl
  have hFc := va_free (wc := bO10 k q_3 .null .null) hD hS hA [7] hq9
  refine va_callv (va_runI (As := []) (rest := [.ref q_3, .ref h]) hF (m_X10_init l9 D k H.size q_3) (cwI 0 hts gX11_init_X10_init rfl rfl rfl (hts (.initialized RX10) (by decide +kernel)) (hts (.methodLink RX11 20 yX10_init) (by decide +kernel)) (hts (.instanceMethod yX10_init) (by decide +kernel)) rfl (by decide +kernel) ⟨Nat.le_of_ble_eq_true rfl, Nat.le_of_ble_eq_true rfl⟩) (aPreS hK hN hAO hP hD [7] (fm_of hq9) (by decide) hq9) rfl rfl hl.1 rfl (lv_room (Nat.le_of_ble_eq_true rfl)) dX11_init_20 ⟨Nat.le_of_ble_eq_true rfl, Nat.le_of_ble_eq_true rfl⟩) hS (fun q _ h => hFc q h) hFc (fun u_4 t9 H1 locs ht hvm hw hB hz1 hk1 hS => ?_)
  replace hB : WB D k (va_A (bO10 k q_3 .null .null) H.size) (bRacks k u_4 (fun _ => 97) (fun _ => 46)) () t9 := hB
  obtain ⟨hP, hD⟩ := wjoin9 (u := ()) (wr := bO11 k h (.ref (u_2 0)) .null .null (.int 0) (.int 0) (.int 0) .null ++ bClaims k u_2 0 (fun _ => 0) (fun _ => 0) (fun _ => 0) (fun _ => 0) (fun _ => FP.fconst0)) (wf := bO11 k h (.ref (u_2 0)) .null .null (.int 0) (.int 0) (.int 0) .null ++ bClaims k u_2 0 (fun _ => 0) (fun _ => 0) (fun _ => 0) (fun _ => 0) (fun _ => FP.fconst0) ++ bRacks k u_4 (fun _ => 97) (fun _ => 46)) hP hD [7] [0, 1, 2, 3, 4, 5, 6] [0, 1, 2, 3, 4, 5, 6, 7, 8, 9] hq9 rfl (by decide) (by decide) hk1 hFc hB ht rfl (by decide)
  replace hw : u_4 0 = q_3 := hw
  clear hB hk1 hz1 hvm hFc ht hq9
  clear t9
  generalize H1 = H at hP hS ⊢
  subst hw
  have hP : va_P D vwCl (bO11 k h (.ref (u_2 0)) .null .null (.int 0) (.int 0) (.int 0) .null ++ bClaims k u_2 0 (fun _ => 0) (fun _ => 0) (fun _ => 0) (fun _ => 0) (fun _ => FP.fconst0) ++ bRacks k u_4 (fun _ => 97) (fun _ => 46)) H := by assumption
  have hD : va_D A (bO11 k h (.ref (u_2 0)) .null .null (.int 0) (.int 0) (.int 0) .null ++ bClaims k u_2 0 (fun _ => 0) (fun _ => 0) (fun _ => 0) (fun _ => 0) (fun _ => FP.fconst0) ++ bRacks k u_4 (fun _ => 97) (fun _ => 46)) := by assumption
  have hS : va_S A s9.heap H locs := by assumption
  refine va_putF (D := D) (ci := 11) (v := .ref (u_4 0)) (ty := (.object "OpinionReactor$Racks")) (C := RX11) (T := TX11) (N := 7) hx hb hts kc_RX11 tyX11 tyX11_ok nmX11 hown hK hP hD hS 0 rfl rfl 1 (by decide) k_fieldLink_21 (fun _ h9 => h9) rfl (hin rfl) rfl (by decide +kernel) rfl rfl (Nat.le_of_ble_eq_true rfl) dX11_init_23 (fun H locs hP hD hS => ?_)
  have hP : va_P D vwCl (bO11 k h (.ref (u_2 0)) (.ref (u_4 0)) .null (.int 0) (.int 0) (.int 0) .null ++ bClaims k u_2 0 (fun _ => 0) (fun _ => 0) (fun _ => 0) (fun _ => 0) (fun _ => FP.fconst0) ++ bRacks k u_4 (fun _ => 97) (fun _ => 46)) H := hP
  have hD : va_D A (bO11 k h (.ref (u_2 0)) (.ref (u_4 0)) .null (.int 0) (.int 0) (.int 0) .null ++ bClaims k u_2 0 (fun _ => 0) (fun _ => 0) (fun _ => 0) (fun _ => 0) (fun _ => FP.fconst0) ++ bRacks k u_4 (fun _ => 97) (fun _ => 46)) := hD
  refine lv_aload_n hx hb dX11_init_26 rfl (lv_at hl 0 rfl) ?_
  refine va_new (ci := 9) (fs := [.null, .null, .int 0, .int 0]) (C := RX8) (T := TX8) (N := 4) hx hb hts kc_RX8 tyX8 tyX8_ok hown (hts (.classLink RX11 25 RX8) (by decide +kernel)) (hts (.instantiable RX8 4) (by decide +kernel)) (hts (.initialized RX8) (by decide +kernel)) hK hP hD hS hA rfl (fun j hj => by rcases (show j = 0 ∨ j = 1 ∨ j = 2 ∨ j = 3 by omega) with rfl | rfl | rfl | rfl <;> rfl) (Nat.le_of_ble_eq_true rfl) (Nat.le_of_ble_eq_true rfl) dX11_init_27 (fun q_5 H hP hD hS => ?_)
  have hP : va_P D vwCl (bO11 k h (.ref (u_2 0)) (.ref (u_4 0)) .null (.int 0) (.int 0) (.int 0) .null ++ bClaims k u_2 0 (fun _ => 0) (fun _ => 0) (fun _ => 0) (fun _ => 0) (fun _ => FP.fconst0) ++ bRacks k u_4 (fun _ => 97) (fun _ => 46) ++ bO9 k q_5 .null .null (.int 0) (.int 0)) H := hP
  have hD : va_D A (bO11 k h (.ref (u_2 0)) (.ref (u_4 0)) .null (.int 0) (.int 0) (.int 0) .null ++ bClaims k u_2 0 (fun _ => 0) (fun _ => 0) (fun _ => 0) (fun _ => 0) (fun _ => FP.fconst0) ++ bRacks k u_4 (fun _ => 97) (fun _ => 46) ++ bO9 k q_5 .null .null (.int 0) (.int 0)) := hD
  refine lv_dup hx hb dX11_init_30 rfl ?_
  have hq9 := mp_of (ws := bO11 k h (.ref (u_2 0)) (.ref (u_4 0)) .null (.int 0) (.int 0) (.int 0) .null ++ bClaims k u_2 0 (fun _ => 0) (fun _ => 0) (fun _ => 0) (fun _ => 0) (fun _ => FP.fconst0) ++ bRacks k u_4 (fun _ => 97) (fun _ => 46) ++ bO9 k q_5 .null .null (.int 0) (.int 0)) (wc := bO9 k q_5 .null .null (.int 0) (.int 0)) (is := [10]) rfl
  have hFc := va_free (wc := bO9 k q_5 .null .null (.int 0) (.int 0)) hD hS hA [10] hq9
  refine va_callv (va_runI (As := []) (rest := [.ref q_5, .ref h]) hF (m_X8_init l9 D k H.size q_5) (cwI 0 hts gX11_init_X8_init rfl rfl rfl (hts (.initialized RX8) (by decide +kernel)) (hts (.methodLink RX11 27 yX8_init) (by decide +kernel)) (hts (.instanceMethod yX8_init) (by decide +kernel)) rfl (by decide +kernel) ⟨Nat.le_of_ble_eq_true rfl, Nat.le_of_ble_eq_true rfl⟩) (aPreS hK hN hAO hP hD [10] (fm_of hq9) (by decide) hq9) rfl rfl hl.1 rfl (lv_room (Nat.le_of_ble_eq_true rfl)) dX11_init_31 ⟨Nat.le_of_ble_eq_true rfl, Nat.le_of_ble_eq_true rfl⟩) hS (fun q _ h => hFc q h) hFc (fun u_6 t9 H1 locs ht hvm hw hB hz1 hk1 hS => ?_)
  replace hB : WB D k (va_A (bO9 k q_5 .null .null (.int 0) (.int 0)) H.size) (bLog k u_6 (fun _ => 0) (fun _ => 0) 0 0) () t9 := hB
  obtain ⟨hP, hD⟩ := wjoin9 (u := ()) (wr := bO11 k h (.ref (u_2 0)) (.ref (u_4 0)) .null (.int 0) (.int 0) (.int 0) .null ++ bClaims k u_2 0 (fun _ => 0) (fun _ => 0) (fun _ => 0) (fun _ => 0) (fun _ => FP.fconst0) ++ bRacks k u_4 (fun _ => 97) (fun _ => 46)) (wf := bO11 k h (.ref (u_2 0)) (.ref (u_4 0)) .null (.int 0) (.int 0) (.int 0) .null ++ bClaims k u_2 0 (fun _ => 0) (fun _ => 0) (fun _ => 0) (fun _ => 0) (fun _ => FP.fconst0) ++ bRacks k u_4 (fun _ => 97) (fun _ => 46) ++ bLog k u_6 (fun _ => 0) (fun _ => 0) 0 0) hP hD [10] [0, 1, 2, 3, 4, 5, 6, 7, 8, 9] [0, 1, 2, 3, 4, 5, 6, 7, 8, 9, 10, 11, 12] hq9 rfl (by decide) (by decide) hk1 hFc hB ht rfl (by decide)
  replace hw : u_6 0 = q_5 := hw
  clear hB hk1 hz1 hvm hFc ht hq9
  clear t9
  generalize H1 = H at hP hS ⊢
  subst hw
  have hP : va_P D vwCl (bO11 k h (.ref (u_2 0)) (.ref (u_4 0)) .null (.int 0) (.int 0) (.int 0) .null ++ bClaims k u_2 0 (fun _ => 0) (fun _ => 0) (fun _ => 0) (fun _ => 0) (fun _ => FP.fconst0) ++ bRacks k u_4 (fun _ => 97) (fun _ => 46) ++ bLog k u_6 (fun _ => 0) (fun _ => 0) 0 0) H := by assumption
  have hD : va_D A (bO11 k h (.ref (u_2 0)) (.ref (u_4 0)) .null (.int 0) (.int 0) (.int 0) .null ++ bClaims k u_2 0 (fun _ => 0) (fun _ => 0) (fun _ => 0) (fun _ => 0) (fun _ => FP.fconst0) ++ bRacks k u_4 (fun _ => 97) (fun _ => 46) ++ bLog k u_6 (fun _ => 0) (fun _ => 0) 0 0) := by assumption
  have hS : va_S A s9.heap H locs := by assumption
  refine va_putF (D := D) (ci := 11) (v := .ref (u_6 0)) (ty := (.object "OpinionReactor$Log")) (C := RX11) (T := TX11) (N := 7) hx hb hts kc_RX11 tyX11 tyX11_ok nmX11 hown hK hP hD hS 0 rfl rfl 2 (by decide) k_fieldLink_28 (fun _ h9 => h9) rfl (hin rfl) rfl (by decide +kernel) rfl rfl (Nat.le_of_ble_eq_true rfl) dX11_init_34 (fun H locs hP hD hS => ?_)
  have hP : va_P D vwCl (bO11 k h (.ref (u_2 0)) (.ref (u_4 0)) (.ref (u_6 0)) (.int 0) (.int 0) (.int 0) .null ++ bClaims k u_2 0 (fun _ => 0) (fun _ => 0) (fun _ => 0) (fun _ => 0) (fun _ => FP.fconst0) ++ bRacks k u_4 (fun _ => 97) (fun _ => 46) ++ bLog k u_6 (fun _ => 0) (fun _ => 0) 0 0) H := hP
  have hD : va_D A (bO11 k h (.ref (u_2 0)) (.ref (u_4 0)) (.ref (u_6 0)) (.int 0) (.int 0) (.int 0) .null ++ bClaims k u_2 0 (fun _ => 0) (fun _ => 0) (fun _ => 0) (fun _ => 0) (fun _ => FP.fconst0) ++ bRacks k u_4 (fun _ => 97) (fun _ => 46) ++ bLog k u_6 (fun _ => 0) (fun _ => 0) 0 0) := hD
  refine lv_aload_n hx hb dX11_init_37 rfl (lv_at hl 0 rfl) ?_
  refine lv_sipush (v := 1000) hx hb dX11_init_38 (by decide) ?_
  refine va_put (D := D) (ci := 11) (v := .int 1000) (ty := .int) (C := RX11) (T := TX11) (N := 7) hx hb hts kc_RX11 tyX11 tyX11_ok nmX11 hown hK hP hD hS 0 rfl rfl 3 (by decide) k_fieldLink_32 (fun _ h9 => h9) rfl (by decide +kernel) rfl rfl (Nat.le_of_ble_eq_true rfl) dX11_init_41 (fun H locs hP hD hS => ?_)
  have hP : va_P D vwCl (bO11 k h (.ref (u_2 0)) (.ref (u_4 0)) (.ref (u_6 0)) (.int 1000) (.int 0) (.int 0) .null ++ bClaims k u_2 0 (fun _ => 0) (fun _ => 0) (fun _ => 0) (fun _ => 0) (fun _ => FP.fconst0) ++ bRacks k u_4 (fun _ => 97) (fun _ => 46) ++ bLog k u_6 (fun _ => 0) (fun _ => 0) 0 0) H := hP
  have hD : va_D A (bO11 k h (.ref (u_2 0)) (.ref (u_4 0)) (.ref (u_6 0)) (.int 1000) (.int 0) (.int 0) .null ++ bClaims k u_2 0 (fun _ => 0) (fun _ => 0) (fun _ => 0) (fun _ => 0) (fun _ => FP.fconst0) ++ bRacks k u_4 (fun _ => 97) (fun _ => 46) ++ bLog k u_6 (fun _ => 0) (fun _ => 0) 0 0) := hD
  refine lv_aload_n hx hb dX11_init_44 rfl (lv_at hl 0 rfl) ?_
  refine lv_iconst (v := 0) hx hb dX11_init_45 (by decide) ?_
  refine va_put (D := D) (ci := 11) (v := .int 0) (ty := .int) (C := RX11) (T := TX11) (N := 7) hx hb hts kc_RX11 tyX11 tyX11_ok nmX11 hown hK hP hD hS 0 rfl rfl 4 (by decide) k_fieldLink_36 (fun _ h9 => h9) rfl (by decide +kernel) rfl rfl (Nat.le_of_ble_eq_true rfl) dX11_init_46 (fun H locs hP hD hS => ?_)
  have hP : va_P D vwCl (bO11 k h (.ref (u_2 0)) (.ref (u_4 0)) (.ref (u_6 0)) (.int 1000) (.int 0) (.int 0) .null ++ bClaims k u_2 0 (fun _ => 0) (fun _ => 0) (fun _ => 0) (fun _ => 0) (fun _ => FP.fconst0) ++ bRacks k u_4 (fun _ => 97) (fun _ => 46) ++ bLog k u_6 (fun _ => 0) (fun _ => 0) 0 0) H := hP
  have hD : va_D A (bO11 k h (.ref (u_2 0)) (.ref (u_4 0)) (.ref (u_6 0)) (.int 1000) (.int 0) (.int 0) .null ++ bClaims k u_2 0 (fun _ => 0) (fun _ => 0) (fun _ => 0) (fun _ => 0) (fun _ => FP.fconst0) ++ bRacks k u_4 (fun _ => 97) (fun _ => 46) ++ bLog k u_6 (fun _ => 0) (fun _ => 0) 0 0) := hD
  refine lv_aload_n hx hb dX11_init_49 rfl (lv_at hl 0 rfl) ?_
  refine lv_iconst (v := 0) hx hb dX11_init_50 (by decide) ?_
  refine va_put (D := D) (ci := 11) (v := .int 0) (ty := .int) (C := RX11) (T := TX11) (N := 7) hx hb hts kc_RX11 tyX11 tyX11_ok nmX11 hown hK hP hD hS 0 rfl rfl 5 (by decide) k_fieldLink_39 (fun _ h9 => h9) rfl (by decide +kernel) rfl rfl (Nat.le_of_ble_eq_true rfl) dX11_init_51 (fun H locs hP hD hS => ?_)
  have hP : va_P D vwCl (bO11 k h (.ref (u_2 0)) (.ref (u_4 0)) (.ref (u_6 0)) (.int 1000) (.int 0) (.int 0) .null ++ bClaims k u_2 0 (fun _ => 0) (fun _ => 0) (fun _ => 0) (fun _ => 0) (fun _ => FP.fconst0) ++ bRacks k u_4 (fun _ => 97) (fun _ => 46) ++ bLog k u_6 (fun _ => 0) (fun _ => 0) 0 0) H := hP
  have hD : va_D A (bO11 k h (.ref (u_2 0)) (.ref (u_4 0)) (.ref (u_6 0)) (.int 1000) (.int 0) (.int 0) .null ++ bClaims k u_2 0 (fun _ => 0) (fun _ => 0) (fun _ => 0) (fun _ => 0) (fun _ => FP.fconst0) ++ bRacks k u_4 (fun _ => 97) (fun _ => 46) ++ bLog k u_6 (fun _ => 0) (fun _ => 0) 0 0) := hD
  refine lv_aload_n hx hb dX11_init_54 rfl (lv_at hl 0 rfl) ?_
  refine lv_bipush (v := 10) hx hb dX11_init_55 (by decide) ?_
  refine nw_arr (atype := .float) hx hb (hts (.arrayClass .float) (by decide +kernel)) rfl hK hP hD hS hA (a0 := (10, .inr (.inr (.inl (fun _ => FP.fconst0))))) (N' := 10) (fun _ => rfl) (by decide) (by decide) (Nat.le_of_ble_eq_true rfl) (Nat.le_of_ble_eq_true rfl) (Nat.le_of_ble_eq_true rfl) 2 rfl dX11_init_57 (fun q_7 H hP hD hS => ?_)
  have hP : va_P D vwCl (bO11 k h (.ref (u_2 0)) (.ref (u_4 0)) (.ref (u_6 0)) (.int 1000) (.int 0) (.int 0) .null ++ bClaims k u_2 0 (fun _ => 0) (fun _ => 0) (fun _ => 0) (fun _ => 0) (fun _ => FP.fconst0) ++ bRacks k u_4 (fun _ => 97) (fun _ => 46) ++ bLog k u_6 (fun _ => 0) (fun _ => 0) 0 0 ++ bF10 k q_7 (fun _ => FP.fconst0)) H := hP
  have hD : va_D A (bO11 k h (.ref (u_2 0)) (.ref (u_4 0)) (.ref (u_6 0)) (.int 1000) (.int 0) (.int 0) .null ++ bClaims k u_2 0 (fun _ => 0) (fun _ => 0) (fun _ => 0) (fun _ => 0) (fun _ => FP.fconst0) ++ bRacks k u_4 (fun _ => 97) (fun _ => 46) ++ bLog k u_6 (fun _ => 0) (fun _ => 0) 0 0 ++ bF10 k q_7 (fun _ => FP.fconst0)) := hD
  refine va_putF (D := D) (ci := 11) (v := .ref q_7) (ty := (.array .float)) (C := RX11) (T := TX11) (N := 7) hx hb hts kc_RX11 tyX11 tyX11_ok nmX11 hown hK hP hD hS 0 rfl rfl 6 (by decide) k_fieldLink_42 (fun _ h9 => h9) rfl (hin rfl) rfl (by decide +kernel) rfl rfl (Nat.le_of_ble_eq_true rfl) dX11_init_59 (fun H locs hP hD hS => ?_)
  have hP : va_P D vwCl (bO11 k h (.ref (u_2 0)) (.ref (u_4 0)) (.ref (u_6 0)) (.int 1000) (.int 0) (.int 0) (.ref q_7) ++ bClaims k u_2 0 (fun _ => 0) (fun _ => 0) (fun _ => 0) (fun _ => 0) (fun _ => FP.fconst0) ++ bRacks k u_4 (fun _ => 97) (fun _ => 46) ++ bLog k u_6 (fun _ => 0) (fun _ => 0) 0 0 ++ bF10 k q_7 (fun _ => FP.fconst0)) H := hP
  have hD : va_D A (bO11 k h (.ref (u_2 0)) (.ref (u_4 0)) (.ref (u_6 0)) (.int 1000) (.int 0) (.int 0) (.ref q_7) ++ bClaims k u_2 0 (fun _ => 0) (fun _ => 0) (fun _ => 0) (fun _ => 0) (fun _ => FP.fconst0) ++ bRacks k u_4 (fun _ => 97) (fun _ => 46) ++ bLog k u_6 (fun _ => 0) (fun _ => 0) 0 0 ++ bF10 k q_7 (fun _ => FP.fconst0)) := hD
  have hD : va_D A (bO11 k h (.ref (u_2 0)) (.ref (u_4 0)) (.ref (u_6 0)) (.int 1000) (.int 0) (.int 0) (.ref q_7) ++ bF10 k q_7 (fun _ => FP.fconst0) ++ bClaims k u_2 0 (fun _ => 0) (fun _ => 0) (fun _ => 0) (fun _ => 0) (fun _ => FP.fconst0) ++ bRacks k u_4 (fun _ => 97) (fun _ => 46) ++ bLog k u_6 (fun _ => 0) (fun _ => 0) 0 0) := hD.sub [0, 13, 1, 2, 3, 4, 5, 6, 7, 8, 9, 10, 11, 12] (by decide) rfl
  have hP : va_P D vwCl (bO11 k h (.ref (u_2 0)) (.ref (u_4 0)) (.ref (u_6 0)) (.int 1000) (.int 0) (.int 0) (.ref q_7) ++ bF10 k q_7 (fun _ => FP.fconst0) ++ bClaims k u_2 0 (fun _ => 0) (fun _ => 0) (fun _ => 0) (fun _ => 0) (fun _ => FP.fconst0) ++ bRacks k u_4 (fun _ => 97) (fun _ => 46) ++ bLog k u_6 (fun _ => 0) (fun _ => 0) 0 0) H := hP.sub [0, 13, 1, 2, 3, 4, 5, 6, 7, 8, 9, 10, 11, 12] rfl
  have hP : va_P D vwCl ((fun u9 : (Nat → Nat) × (Nat → Nat) × (Nat → Nat) × (Nat → Nat) => bSt k u9.1 u9.2.1 u9.2.2.1 u9.2.2.2 1000 0 0 (fun _ => FP.fconst0) ++ bClaims k u9.2.1 0 (fun _ => 0) (fun _ => 0) (fun _ => 0) (fun _ => 0) (fun _ => FP.fconst0) ++ bRacks k u9.2.2.1 (fun _ => 97) (fun _ => 46) ++ bLog k u9.2.2.2 (fun _ => 0) (fun _ => 0) 0 0) (ad [h, q_7], u_2, u_4, u_6)) H := hP
  have hD : va_D A ((fun u9 : (Nat → Nat) × (Nat → Nat) × (Nat → Nat) × (Nat → Nat) => bSt k u9.1 u9.2.1 u9.2.2.1 u9.2.2.2 1000 0 0 (fun _ => FP.fconst0) ++ bClaims k u9.2.1 0 (fun _ => 0) (fun _ => 0) (fun _ => 0) (fun _ => 0) (fun _ => FP.fconst0) ++ bRacks k u9.2.2.1 (fun _ => 97) (fun _ => 46) ++ bLog k u9.2.2.2 (fun _ => 0) (fun _ => 0) 0 0) (ad [h, q_7], u_2, u_4, u_6)) := hD
  refine W.widen (k := 13) (n := 120) (Nat.le_of_ble_eq_true rfl) (Nat.le_of_ble_eq_true rfl) ?_
  exact W.vret hx hb hr (fun t9 ht hW => ⟨⟨(ad [h, q_7], u_2, u_4, u_6), rfl, rfl, ⟨by rw [ht]; exact hP, va_K.moved hW.alike hK, hD⟩⟩, hS.F ht⟩) hS.2.2 dX11_init_62 hlocks

set_option maxHeartbeats 4000000 in
set_option maxRecDepth 100000 in
theorem m_X3_init (l9 : Launch) (D : va_G) (k : Nat → ClassId) (sz : Nat) (h : Nat) : Met l9 yX3_init wsX3_init ({ frames := 1, cells := 24, slots := 240, locals := 20 }) (APc D k [.ref h] (bO5 k h .null .null .null .null) sz) (WU D k (fun u9 : Nat × Nat × Nat × Nat × Nat × (Nat → Nat) × (Nat → Nat) => u9.1 = h) (fun u9 : Nat × Nat × Nat × Nat × Nat × (Nat → Nat) × (Nat → Nat) => bCh k u9.1 u9.2.1 u9.2.2.1 u9.2.2.2.1 u9.2.2.2.2.1 ++ bGL k u9.2.1 u9.2.2.2.2.2.1 ++ bGL k u9.2.2.1 u9.2.2.2.2.2.2 ++ bGr k u9.2.2.2.2.2.1 (fun _ _ => 0) ++ bGr k u9.2.2.2.2.2.2 (fun _ _ => 0) ++ bL10 k u9.2.2.2.1 (fun _ => 0) ++ bL10 k u9.2.2.2.2.1 (fun _ => 0)) (va_A (bO5 k h .null .null .null .null) sz)) 24 240 (va_A (bO5 k h .null .null .null .null) sz) := by
  refine aMet (y := yX3_init) (cc := cX3_init) (maxL := 1) (ret := none) (Qc := fun A => WU D k (fun u9 : Nat × Nat × Nat × Nat × Nat × (Nat → Nat) × (Nat → Nat) => u9.1 = h) (fun u9 : Nat × Nat × Nat × Nat × Nat × (Nat → Nat) × (Nat → Nat) => bCh k u9.1 u9.2.1 u9.2.2.1 u9.2.2.2.1 u9.2.2.2.2.1 ++ bGL k u9.2.1 u9.2.2.2.2.2.1 ++ bGL k u9.2.2.1 u9.2.2.2.2.2.2 ++ bGr k u9.2.2.2.2.2.1 (fun _ _ => 0) ++ bGr k u9.2.2.2.2.2.2 (fun _ _ => 0) ++ bL10 k u9.2.2.2.1 (fun _ => 0) ++ bL10 k u9.2.2.2.2.1 (fun _ => 0)) A) [.ref h] (by decide) rfl (Nat.le_of_ble_eq_true rfl) ?_
  intro p9 e9 s9 m9 bl9 me9 c9 ls A H hF hr hlocks hP hK hN hAO hD hA hS hl hin
  have hl : lv_has ls 1 [(0, .ref h)] := hl
  obtain ⟨hx, hb, hml, hown, hts⟩ := id hF
  have k_fieldLink_11 : (Cond.fieldLink RX3 11 "OpinionReactor$Chains" "matrix" "[[J").before _ s9 = true := hts (.fieldLink RX3 11 "OpinionReactor$Chains" "matrix" "[[J") (by decide +kernel)
  have kc_RX3 : ∀ w ∈ u_ws RX3 TX3 4, w ∈ wsX3_init := by decide +kernel
  have k_fieldLink_16 : (Cond.fieldLink RX3 16 "OpinionReactor$Chains" "square" "[[J").before _ s9 = true := hts (.fieldLink RX3 16 "OpinionReactor$Chains" "square" "[[J") (by decide +kernel)
  have k_fieldLink_19 : (Cond.fieldLink RX3 19 "OpinionReactor$Chains" "row" "[J").before _ s9 = true := hts (.fieldLink RX3 19 "OpinionReactor$Chains" "row" "[J") (by decide +kernel)
  have k_fieldLink_23 : (Cond.fieldLink RX3 23 "OpinionReactor$Chains" "next" "[J").before _ s9 = true := hts (.fieldLink RX3 23 "OpinionReactor$Chains" "next" "[J") (by decide +kernel)
  refine lv_aload_n hx hb dX3_init_0 rfl (lv_at hl 0 rfl) ?_
  refine W.objInit hx hb hown (hts (.methodLink RX3 3 objectInit) (by decide +kernel)) (hts (.instanceMethod objectInit) (by decide +kernel)) (hts (.code objectInit ⟨#[0xb1]⟩ 1 none) (by decide +kernel)) rfl (by rw [hml]; exact hl.1) rfl dX3_init_1 (Nat.le_of_ble_eq_true rfl) (Nat.le_of_ble_eq_true rfl) ?_
  refine W.eq (g2 := F0 m9 4 ls []) rfl ?_
  refine lv_aload_n hx hb dX3_init_4 rfl (lv_at hl 0 rfl) ?_
  refine lv_bipush (v := 10) hx hb dX3_init_5 (by decide) ?_
  refine lv_bipush (v := 10) hx hb dX3_init_7 (by decide) ?_
  refine nw_m (ty := .long) (z := (10, .inr (.inl (fun _ => 0)))) hx hb hown (hts (.classLink RX3 9 "[[J") (by decide +kernel)) hAO.1 (hts (.arrayClass .long) (by decide +kernel)) (hK.2 3 _ rfl).2 hK hP hD hS hA (N' := 10) (K' := 10) (by decide) (by decide) (by decide) (by decide) (Nat.le_of_ble_eq_true rfl) (Nat.le_of_ble_eq_true rfl) (Nat.le_of_ble_eq_true rfl) rfl rfl (Nat.le_of_ble_eq_true rfl) (Nat.le_of_ble_eq_true rfl) (fun _ => nw_inner _ _ _ _) 4 rfl dX3_init_9 (fun q_1 r_2 H hP hD hS => ?_)
  obtain ⟨hP, hD⟩ := ext_q hP hD 1 rfl (g := fun j => some (r_2 j)) (fun j hj => if_pos hj)
  have hP : va_P D vwCl (bO5 k h .null .null .null .null ++ bGL k q_1 r_2 ++ bGr k r_2 (fun _ _ => 0)) H := hP
  have hD : va_D A (bO5 k h .null .null .null .null ++ bGL k q_1 r_2 ++ bGr k r_2 (fun _ _ => 0)) := hD
  refine va_put (D := D) (ci := 5) (v := .ref q_1) (ty := (.array (.array .long))) (C := RX3) (T := TX3) (N := 4) hx hb hts kc_RX3 tyX3 tyX3_ok nmX3 hown hK hP hD hS 0 rfl rfl 0 (by decide) k_fieldLink_11 (fun _ h9 => h9) rfl (by decide +kernel) rfl rfl (Nat.le_of_ble_eq_true rfl) dX3_init_13 (fun H locs hP hD hS => ?_)
  have hP : va_P D vwCl (bO5 k h (.ref q_1) .null .null .null ++ bGL k q_1 r_2 ++ bGr k r_2 (fun _ _ => 0)) H := hP
  have hD : va_D A (bO5 k h (.ref q_1) .null .null .null ++ bGL k q_1 r_2 ++ bGr k r_2 (fun _ _ => 0)) := hD
  refine lv_aload_n hx hb dX3_init_16 rfl (lv_at hl 0 rfl) ?_
  refine lv_bipush (v := 10) hx hb dX3_init_17 (by decide) ?_
  refine lv_bipush (v := 10) hx hb dX3_init_19 (by decide) ?_
  refine nw_m (ty := .long) (z := (10, .inr (.inl (fun _ => 0)))) hx hb hown (hts (.classLink RX3 9 "[[J") (by decide +kernel)) hAO.1 (hts (.arrayClass .long) (by decide +kernel)) (hK.2 3 _ rfl).2 hK hP hD hS hA (N' := 10) (K' := 10) (by decide) (by decide) (by decide) (by decide) (Nat.le_of_ble_eq_true rfl) (Nat.le_of_ble_eq_true rfl) (Nat.le_of_ble_eq_true rfl) rfl rfl (Nat.le_of_ble_eq_true rfl) (Nat.le_of_ble_eq_true rfl) (fun _ => nw_inner _ _ _ _) 4 rfl dX3_init_21 (fun q_3 r_4 H hP hD hS => ?_)
  obtain ⟨hP, hD⟩ := ext_q hP hD 12 rfl (g := fun j => some (r_4 j)) (fun j hj => if_pos hj)
  have hP : va_P D vwCl (bO5 k h (.ref q_1) .null .null .null ++ bGL k q_1 r_2 ++ bGr k r_2 (fun _ _ => 0) ++ bGL k q_3 r_4 ++ bGr k r_4 (fun _ _ => 0)) H := hP
  have hD : va_D A (bO5 k h (.ref q_1) .null .null .null ++ bGL k q_1 r_2 ++ bGr k r_2 (fun _ _ => 0) ++ bGL k q_3 r_4 ++ bGr k r_4 (fun _ _ => 0)) := hD
  refine va_put (D := D) (ci := 5) (v := .ref q_3) (ty := (.array (.array .long))) (C := RX3) (T := TX3) (N := 4) hx hb hts kc_RX3 tyX3 tyX3_ok nmX3 hown hK hP hD hS 0 rfl rfl 1 (by decide) k_fieldLink_16 (fun _ h9 => h9) rfl (by decide +kernel) rfl rfl (Nat.le_of_ble_eq_true rfl) dX3_init_25 (fun H locs hP hD hS => ?_)
  have hP : va_P D vwCl (bO5 k h (.ref q_1) (.ref q_3) .null .null ++ bGL k q_1 r_2 ++ bGr k r_2 (fun _ _ => 0) ++ bGL k q_3 r_4 ++ bGr k r_4 (fun _ _ => 0)) H := hP
  have hD : va_D A (bO5 k h (.ref q_1) (.ref q_3) .null .null ++ bGL k q_1 r_2 ++ bGr k r_2 (fun _ _ => 0) ++ bGL k q_3 r_4 ++ bGr k r_4 (fun _ _ => 0)) := hD
  refine lv_aload_n hx hb dX3_init_28 rfl (lv_at hl 0 rfl) ?_
  refine lv_bipush (v := 10) hx hb dX3_init_29 (by decide) ?_
  refine nw_arr (atype := .long) hx hb (hts (.arrayClass .long) (by decide +kernel)) rfl hK hP hD hS hA (a0 := (10, .inr (.inl (fun _ => 0)))) (N' := 10) (fun _ => rfl) (by decide) (by decide) (Nat.le_of_ble_eq_true rfl) (Nat.le_of_ble_eq_true rfl) (Nat.le_of_ble_eq_true rfl) 3 rfl dX3_init_31 (fun q_5 H hP hD hS => ?_)
  have hP : va_P D vwCl (bO5 k h (.ref q_1) (.ref q_3) .null .null ++ bGL k q_1 r_2 ++ bGr k r_2 (fun _ _ => 0) ++ bGL k q_3 r_4 ++ bGr k r_4 (fun _ _ => 0) ++ bL10 k q_5 (fun _ => 0)) H := hP
  have hD : va_D A (bO5 k h (.ref q_1) (.ref q_3) .null .null ++ bGL k q_1 r_2 ++ bGr k r_2 (fun _ _ => 0) ++ bGL k q_3 r_4 ++ bGr k r_4 (fun _ _ => 0) ++ bL10 k q_5 (fun _ => 0)) := hD
  refine va_put (D := D) (ci := 5) (v := .ref q_5) (ty := (.array .long)) (C := RX3) (T := TX3) (N := 4) hx hb hts kc_RX3 tyX3 tyX3_ok nmX3 hown hK hP hD hS 0 rfl rfl 2 (by decide) k_fieldLink_19 (fun _ h9 => h9) rfl (by decide +kernel) rfl rfl (Nat.le_of_ble_eq_true rfl) dX3_init_33 (fun H locs hP hD hS => ?_)
  have hP : va_P D vwCl (bO5 k h (.ref q_1) (.ref q_3) (.ref q_5) .null ++ bGL k q_1 r_2 ++ bGr k r_2 (fun _ _ => 0) ++ bGL k q_3 r_4 ++ bGr k r_4 (fun _ _ => 0) ++ bL10 k q_5 (fun _ => 0)) H := hP
  have hD : va_D A (bO5 k h (.ref q_1) (.ref q_3) (.ref q_5) .null ++ bGL k q_1 r_2 ++ bGr k r_2 (fun _ _ => 0) ++ bGL k q_3 r_4 ++ bGr k r_4 (fun _ _ => 0) ++ bL10 k q_5 (fun _ => 0)) := hD
  refine lv_aload_n hx hb dX3_init_36 rfl (lv_at hl 0 rfl) ?_
  refine lv_bipush (v := 10) hx hb dX3_init_37 (by decide) ?_
  refine nw_arr (atype := .long) hx hb (hts (.arrayClass .long) (by decide +kernel)) rfl hK hP hD hS hA (a0 := (10, .inr (.inl (fun _ => 0)))) (N' := 10) (fun _ => rfl) (by decide) (by decide) (Nat.le_of_ble_eq_true rfl) (Nat.le_of_ble_eq_true rfl) (Nat.le_of_ble_eq_true rfl) 3 rfl dX3_init_39 (fun q_6 H hP hD hS => ?_)
  have hP : va_P D vwCl (bO5 k h (.ref q_1) (.ref q_3) (.ref q_5) .null ++ bGL k q_1 r_2 ++ bGr k r_2 (fun _ _ => 0) ++ bGL k q_3 r_4 ++ bGr k r_4 (fun _ _ => 0) ++ bL10 k q_5 (fun _ => 0) ++ bL10 k q_6 (fun _ => 0)) H := hP
  have hD : va_D A (bO5 k h (.ref q_1) (.ref q_3) (.ref q_5) .null ++ bGL k q_1 r_2 ++ bGr k r_2 (fun _ _ => 0) ++ bGL k q_3 r_4 ++ bGr k r_4 (fun _ _ => 0) ++ bL10 k q_5 (fun _ => 0) ++ bL10 k q_6 (fun _ => 0)) := hD
  refine va_put (D := D) (ci := 5) (v := .ref q_6) (ty := (.array .long)) (C := RX3) (T := TX3) (N := 4) hx hb hts kc_RX3 tyX3 tyX3_ok nmX3 hown hK hP hD hS 0 rfl rfl 3 (by decide) k_fieldLink_23 (fun _ h9 => h9) rfl (by decide +kernel) rfl rfl (Nat.le_of_ble_eq_true rfl) dX3_init_41 (fun H locs hP hD hS => ?_)
  have hP : va_P D vwCl (bO5 k h (.ref q_1) (.ref q_3) (.ref q_5) (.ref q_6) ++ bGL k q_1 r_2 ++ bGr k r_2 (fun _ _ => 0) ++ bGL k q_3 r_4 ++ bGr k r_4 (fun _ _ => 0) ++ bL10 k q_5 (fun _ => 0) ++ bL10 k q_6 (fun _ => 0)) H := hP
  have hD : va_D A (bO5 k h (.ref q_1) (.ref q_3) (.ref q_5) (.ref q_6) ++ bGL k q_1 r_2 ++ bGr k r_2 (fun _ _ => 0) ++ bGL k q_3 r_4 ++ bGr k r_4 (fun _ _ => 0) ++ bL10 k q_5 (fun _ => 0) ++ bL10 k q_6 (fun _ => 0)) := hD
  have hD : va_D A (bO5 k h (.ref q_1) (.ref q_3) (.ref q_5) (.ref q_6) ++ bGL k q_1 r_2 ++ bGL k q_3 r_4 ++ bGr k r_2 (fun _ _ => 0) ++ bGr k r_4 (fun _ _ => 0) ++ bL10 k q_5 (fun _ => 0) ++ bL10 k q_6 (fun _ => 0)) := hD.sub [0, 1, 12, 2, 3, 4, 5, 6, 7, 8, 9, 10, 11, 13, 14, 15, 16, 17, 18, 19, 20, 21, 22, 23, 24] (by decide) rfl
  have hP : va_P D vwCl (bO5 k h (.ref q_1) (.ref q_3) (.ref q_5) (.ref q_6) ++ bGL k q_1 r_2 ++ bGL k q_3 r_4 ++ bGr k r_2 (fun _ _ => 0) ++ bGr k r_4 (fun _ _ => 0) ++ bL10 k q_5 (fun _ => 0) ++ bL10 k q_6 (fun _ => 0)) H := hP.sub [0, 1, 12, 2, 3, 4, 5, 6, 7, 8, 9, 10, 11, 13, 14, 15, 16, 17, 18, 19, 20, 21, 22, 23, 24] rfl
  have hP : va_P D vwCl ((fun u9 : Nat × Nat × Nat × Nat × Nat × (Nat → Nat) × (Nat → Nat) => bCh k u9.1 u9.2.1 u9.2.2.1 u9.2.2.2.1 u9.2.2.2.2.1 ++ bGL k u9.2.1 u9.2.2.2.2.2.1 ++ bGL k u9.2.2.1 u9.2.2.2.2.2.2 ++ bGr k u9.2.2.2.2.2.1 (fun _ _ => 0) ++ bGr k u9.2.2.2.2.2.2 (fun _ _ => 0) ++ bL10 k u9.2.2.2.1 (fun _ => 0) ++ bL10 k u9.2.2.2.2.1 (fun _ => 0)) (h, q_1, q_3, q_5, q_6, r_2, r_4)) H := hP
  have hD : va_D A ((fun u9 : Nat × Nat × Nat × Nat × Nat × (Nat → Nat) × (Nat → Nat) => bCh k u9.1 u9.2.1 u9.2.2.1 u9.2.2.2.1 u9.2.2.2.2.1 ++ bGL k u9.2.1 u9.2.2.2.2.2.1 ++ bGL k u9.2.2.1 u9.2.2.2.2.2.2 ++ bGr k u9.2.2.2.2.2.1 (fun _ _ => 0) ++ bGr k u9.2.2.2.2.2.2 (fun _ _ => 0) ++ bL10 k u9.2.2.2.1 (fun _ => 0) ++ bL10 k u9.2.2.2.2.1 (fun _ => 0)) (h, q_1, q_3, q_5, q_6, r_2, r_4)) := hD
  refine W.widen (k := 24) (n := 240) (Nat.le_of_ble_eq_true rfl) (Nat.le_of_ble_eq_true rfl) ?_
  exact W.vret hx hb hr (fun t9 ht hW => ⟨⟨(h, q_1, q_3, q_5, q_6, r_2, r_4), rfl, rfl, ⟨by rw [ht]; exact hP, va_K.moved hW.alike hK, hD⟩⟩, hS.F ht⟩) hS.2.2 dX3_init_44 hlocks

set_option maxHeartbeats 4000000 in
set_option maxRecDepth 100000 in
theorem m_X6_init (l9 : Launch) (D : va_G) (k : Nat → ClassId) (sz : Nat) (h : Nat) : Met l9 yX6_init wsX6_init ({ frames := 1, cells := 13, slots := 110, locals := 20 }) (APc D k [.ref h] (bO8 k h .null (.int 0) .null .null (.int 0) (.int 0) (.int 0)) sz) (WU D k (fun u9 : Nat × Nat × Nat × Nat × (Nat → Nat) => u9.1 = h) (fun u9 : Nat × Nat × Nat × Nat × (Nat → Nat) => bCT k u9.1 u9.2.1 0 u9.2.2.1 u9.2.2.2.1 0 0 0 ++ bC60 k u9.2.1 (fun _ => 0) ++ bGI k u9.2.2.2.1 u9.2.2.2.2 ++ bG3 k u9.2.2.2.2 (fun _ _ => 0) ++ bFO k u9.2.2.1 (fun _ => none)) (va_A (bO8 k h .null (.int 0) .null .null (.int 0) (.int 0) (.int 0)) sz)) 13 110 (va_A (bO8 k h .null (.int 0) .null .null (.int 0) (.int 0) (.int 0)) sz) := by
  refine aMet (y := yX6_init) (cc := cX6_init) (maxL := 1) (ret := none) (Qc := fun A => WU D k (fun u9 : Nat × Nat × Nat × Nat × (Nat → Nat) => u9.1 = h) (fun u9 : Nat × Nat × Nat × Nat × (Nat → Nat) => bCT k u9.1 u9.2.1 0 u9.2.2.1 u9.2.2.2.1 0 0 0 ++ bC60 k u9.2.1 (fun _ => 0) ++ bGI k u9.2.2.2.1 u9.2.2.2.2 ++ bG3 k u9.2.2.2.2 (fun _ _ => 0) ++ bFO k u9.2.2.1 (fun _ => none)) A) [.ref h] (by decide) rfl (Nat.le_of_ble_eq_true rfl) ?_
  intro p9 e9 s9 m9 bl9 me9 c9 ls A H hF hr hlocks hP hK hN hAO hD hA hS hl hin
  have hl : lv_has ls 1 [(0, .ref h)] := hl
  obtain ⟨hx, hb, hml, hown, hts⟩ := id hF
  have k_fieldLink_9 : (Cond.fieldLink RX6 9 "OpinionReactor$CommandText" "signs" "[C").before _ s9 = true := hts (.fieldLink RX6 9 "OpinionReactor$CommandText" "signs" "[C") (by decide +kernel)
  have kc_RX6 : ∀ w ∈ u_ws RX6 TX6 7, w ∈ wsX6_init := by decide +kernel
  have k_fieldLink_15 : (Cond.fieldLink RX6 15 "OpinionReactor$CommandText" "length" "I").before _ s9 = true := hts (.fieldLink RX6 15 "OpinionReactor$CommandText" "length" "I") (by decide +kernel)
  have k_fieldLink_21 : (Cond.fieldLink RX6 21 "OpinionReactor$CommandText" "forms" "[LOpinionReactor$Form;").before _ s9 = true := hts (.fieldLink RX6 21 "OpinionReactor$CommandText" "forms" "[LOpinionReactor$Form;") (by decide +kernel)
  have k_fieldLink_27 : (Cond.fieldLink RX6 27 "OpinionReactor$CommandText" "values" "[[I").before _ s9 = true := hts (.fieldLink RX6 27 "OpinionReactor$CommandText" "values" "[[I") (by decide +kernel)
  have k_fieldLink_30 : (Cond.fieldLink RX6 30 "OpinionReactor$CommandText" "commands" "I").before _ s9 = true := hts (.fieldLink RX6 30 "OpinionReactor$CommandText" "commands" "I") (by decide +kernel)
  have k_fieldLink_33 : (Cond.fieldLink RX6 33 "OpinionReactor$CommandText" "valueCount" "I").before _ s9 = true := hts (.fieldLink RX6 33 "OpinionReactor$CommandText" "valueCount" "I") (by decide +kernel)
  have k_fieldLink_36 : (Cond.fieldLink RX6 36 "OpinionReactor$CommandText" "stop" "I").before _ s9 = true := hts (.fieldLink RX6 36 "OpinionReactor$CommandText" "stop" "I") (by decide +kernel)
  refine lv_aload_n hx hb dX6_init_0 rfl (lv_at hl 0 rfl) ?_
  refine W.objInit hx hb hown (hts (.methodLink RX6 3 objectInit) (by decide +kernel)) (hts (.instanceMethod objectInit) (by decide +kernel)) (hts (.code objectInit ⟨#[0xb1]⟩ 1 none) (by decide +kernel)) rfl (by rw [hml]; exact hl.1) rfl dX6_init_1 (Nat.le_of_ble_eq_true rfl) (Nat.le_of_ble_eq_true rfl) ?_
  refine W.eq (g2 := F0 m9 4 ls []) rfl ?_
  refine lv_aload_n hx hb dX6_init_4 rfl (lv_at hl 0 rfl) ?_
  refine lv_bipush (v := 60) hx hb dX6_init_5 (by decide) ?_
  refine nw_arr (atype := .char) hx hb (hts (.arrayClass .char) (by decide +kernel)) rfl hK hP hD hS hA (a0 := (60, .inl (fun _ => 0))) (N' := 60) (fun _ => rfl) (by decide) (by decide) (Nat.le_of_ble_eq_true rfl) (Nat.le_of_ble_eq_true rfl) (Nat.le_of_ble_eq_true rfl) 1 rfl dX6_init_7 (fun q_1 H hP hD hS => ?_)
  have hP : va_P D vwCl (bO8 k h .null (.int 0) .null .null (.int 0) (.int 0) (.int 0) ++ bC60 k q_1 (fun _ => 0)) H := hP
  have hD : va_D A (bO8 k h .null (.int 0) .null .null (.int 0) (.int 0) (.int 0) ++ bC60 k q_1 (fun _ => 0)) := hD
  refine va_putF (D := D) (ci := 8) (v := .ref q_1) (ty := (.array .char)) (C := RX6) (T := TX6) (N := 7) hx hb hts kc_RX6 tyX6 tyX6_ok nmX6 hown hK hP hD hS 0 rfl rfl 0 (by decide) k_fieldLink_9 (fun _ h9 => h9) rfl (hin rfl) rfl (by decide +kernel) rfl rfl (Nat.le_of_ble_eq_true rfl) dX6_init_9 (fun H locs hP hD hS => ?_)
  have hP : va_P D vwCl (bO8 k h (.ref q_1) (.int 0) .null .null (.int 0) (.int 0) (.int 0) ++ bC60 k q_1 (fun _ => 0)) H := hP
  have hD : va_D A (bO8 k h (.ref q_1) (.int 0) .null .null (.int 0) (.int 0) (.int 0) ++ bC60 k q_1 (fun _ => 0)) := hD
  refine lv_aload_n hx hb dX6_init_12 rfl (lv_at hl 0 rfl) ?_
  refine lv_iconst (v := 0) hx hb dX6_init_13 (by decide) ?_
  refine va_put (D := D) (ci := 8) (v := .int 0) (ty := .int) (C := RX6) (T := TX6) (N := 7) hx hb hts kc_RX6 tyX6 tyX6_ok nmX6 hown hK hP hD hS 0 rfl rfl 1 (by decide) k_fieldLink_15 (fun _ h9 => h9) rfl (by decide +kernel) rfl rfl (Nat.le_of_ble_eq_true rfl) dX6_init_14 (fun H locs hP hD hS => ?_)
  have hP : va_P D vwCl (bO8 k h (.ref q_1) (.int 0) .null .null (.int 0) (.int 0) (.int 0) ++ bC60 k q_1 (fun _ => 0)) H := hP
  have hD : va_D A (bO8 k h (.ref q_1) (.int 0) .null .null (.int 0) (.int 0) (.int 0) ++ bC60 k q_1 (fun _ => 0)) := hD
  refine lv_aload_n hx hb dX6_init_17 rfl (lv_at hl 0 rfl) ?_
  refine lv_bipush (v := 10) hx hb dX6_init_18 (by decide) ?_
  refine nw_q hx hb hown (hts (.classLink RX6 19 RX7) (by decide +kernel)) hAO.2.2.2 hK hP hD hS hA (N' := 10) (by decide) (by decide) (Nat.le_of_ble_eq_true rfl) (Nat.le_of_ble_eq_true rfl) (Nat.le_of_ble_eq_true rfl) 7 rfl dX6_init_20 (fun q_2 H hP hD hS => ?_)
  have hP : va_P D vwCl (bO8 k h (.ref q_1) (.int 0) .null .null (.int 0) (.int 0) (.int 0) ++ bC60 k q_1 (fun _ => 0) ++ bFO k q_2 (fun _ => none)) H := hP
  have hD : va_D A (bO8 k h (.ref q_1) (.int 0) .null .null (.int 0) (.int 0) (.int 0) ++ bC60 k q_1 (fun _ => 0) ++ bFO k q_2 (fun _ => none)) := hD
  refine va_putF (D := D) (ci := 8) (v := .ref q_2) (ty := (.array (.object "OpinionReactor$Form"))) (C := RX6) (T := TX6) (N := 7) hx hb hts kc_RX6 tyX6 tyX6_ok nmX6 hown hK hP hD hS 0 rfl rfl 2 (by decide) k_fieldLink_21 (fun _ h9 => h9) rfl (hin rfl) rfl (by decide +kernel) rfl rfl (Nat.le_of_ble_eq_true rfl) dX6_init_23 (fun H locs hP hD hS => ?_)
  have hP : va_P D vwCl (bO8 k h (.ref q_1) (.int 0) (.ref q_2) .null (.int 0) (.int 0) (.int 0) ++ bC60 k q_1 (fun _ => 0) ++ bFO k q_2 (fun _ => none)) H := hP
  have hD : va_D A (bO8 k h (.ref q_1) (.int 0) (.ref q_2) .null (.int 0) (.int 0) (.int 0) ++ bC60 k q_1 (fun _ => 0) ++ bFO k q_2 (fun _ => none)) := hD
  refine lv_aload_n hx hb dX6_init_26 rfl (lv_at hl 0 rfl) ?_
  refine lv_bipush (v := 10) hx hb dX6_init_27 (by decide) ?_
  refine lv_iconst (v := 3) hx hb dX6_init_29 (by decide) ?_
  refine nw_m (ty := .int) (z := (3, .inl (fun _ => 0))) hx hb hown (hts (.classLink RX6 25 "[[I") (by decide +kernel)) hAO.2.1 (hts (.arrayClass .int) (by decide +kernel)) (hK.2 0 _ rfl).2 hK hP hD hS hA (N' := 10) (K' := 3) (by decide) (by decide) (by decide) (by decide) (Nat.le_of_ble_eq_true rfl) (Nat.le_of_ble_eq_true rfl) (Nat.le_of_ble_eq_true rfl) rfl rfl (Nat.le_of_ble_eq_true rfl) (Nat.le_of_ble_eq_true rfl) (fun _ => nw_inner _ _ _ _) 5 rfl dX6_init_30 (fun q_3 r_4 H hP hD hS => ?_)
  obtain ⟨hP, hD⟩ := ext_q hP hD 3 rfl (g := fun j => some (r_4 j)) (fun j hj => if_pos hj)
  have hP : va_P D vwCl (bO8 k h (.ref q_1) (.int 0) (.ref q_2) .null (.int 0) (.int 0) (.int 0) ++ bC60 k q_1 (fun _ => 0) ++ bFO k q_2 (fun _ => none) ++ bGI k q_3 r_4 ++ bG3 k r_4 (fun _ _ => 0)) H := hP
  have hD : va_D A (bO8 k h (.ref q_1) (.int 0) (.ref q_2) .null (.int 0) (.int 0) (.int 0) ++ bC60 k q_1 (fun _ => 0) ++ bFO k q_2 (fun _ => none) ++ bGI k q_3 r_4 ++ bG3 k r_4 (fun _ _ => 0)) := hD
  refine va_putF (D := D) (ci := 8) (v := .ref q_3) (ty := (.array (.array .int))) (C := RX6) (T := TX6) (N := 7) hx hb hts kc_RX6 tyX6 tyX6_ok nmX6 hown hK hP hD hS 0 rfl rfl 3 (by decide) k_fieldLink_27 (fun _ h9 => h9) rfl (hin rfl) rfl (by decide +kernel) rfl rfl (Nat.le_of_ble_eq_true rfl) dX6_init_34 (fun H locs hP hD hS => ?_)
  have hP : va_P D vwCl (bO8 k h (.ref q_1) (.int 0) (.ref q_2) (.ref q_3) (.int 0) (.int 0) (.int 0) ++ bC60 k q_1 (fun _ => 0) ++ bFO k q_2 (fun _ => none) ++ bGI k q_3 r_4 ++ bG3 k r_4 (fun _ _ => 0)) H := hP
  have hD : va_D A (bO8 k h (.ref q_1) (.int 0) (.ref q_2) (.ref q_3) (.int 0) (.int 0) (.int 0) ++ bC60 k q_1 (fun _ => 0) ++ bFO k q_2 (fun _ => none) ++ bGI k q_3 r_4 ++ bG3 k r_4 (fun _ _ => 0)) := hD
  refine lv_aload_n hx hb dX6_init_37 rfl (lv_at hl 0 rfl) ?_
  refine lv_iconst (v := 0) hx hb dX6_init_38 (by decide) ?_
  refine va_put (D := D) (ci := 8) (v := .int 0) (ty := .int) (C := RX6) (T := TX6) (N := 7) hx hb hts kc_RX6 tyX6 tyX6_ok nmX6 hown hK hP hD hS 0 rfl rfl 4 (by decide) k_fieldLink_30 (fun _ h9 => h9) rfl (by decide +kernel) rfl rfl (Nat.le_of_ble_eq_true rfl) dX6_init_39 (fun H locs hP hD hS => ?_)
  have hP : va_P D vwCl (bO8 k h (.ref q_1) (.int 0) (.ref q_2) (.ref q_3) (.int 0) (.int 0) (.int 0) ++ bC60 k q_1 (fun _ => 0) ++ bFO k q_2 (fun _ => none) ++ bGI k q_3 r_4 ++ bG3 k r_4 (fun _ _ => 0)) H := hP
  have hD : va_D A (bO8 k h (.ref q_1) (.int 0) (.ref q_2) (.ref q_3) (.int 0) (.int 0) (.int 0) ++ bC60 k q_1 (fun _ => 0) ++ bFO k q_2 (fun _ => none) ++ bGI k q_3 r_4 ++ bG3 k r_4 (fun _ _ => 0)) := hD
  refine lv_aload_n hx hb dX6_init_42 rfl (lv_at hl 0 rfl) ?_
  refine lv_iconst (v := 0) hx hb dX6_init_43 (by decide) ?_
  refine va_put (D := D) (ci := 8) (v := .int 0) (ty := .int) (C := RX6) (T := TX6) (N := 7) hx hb hts kc_RX6 tyX6 tyX6_ok nmX6 hown hK hP hD hS 0 rfl rfl 5 (by decide) k_fieldLink_33 (fun _ h9 => h9) rfl (by decide +kernel) rfl rfl (Nat.le_of_ble_eq_true rfl) dX6_init_44 (fun H locs hP hD hS => ?_)
  have hP : va_P D vwCl (bO8 k h (.ref q_1) (.int 0) (.ref q_2) (.ref q_3) (.int 0) (.int 0) (.int 0) ++ bC60 k q_1 (fun _ => 0) ++ bFO k q_2 (fun _ => none) ++ bGI k q_3 r_4 ++ bG3 k r_4 (fun _ _ => 0)) H := hP
  have hD : va_D A (bO8 k h (.ref q_1) (.int 0) (.ref q_2) (.ref q_3) (.int 0) (.int 0) (.int 0) ++ bC60 k q_1 (fun _ => 0) ++ bFO k q_2 (fun _ => none) ++ bGI k q_3 r_4 ++ bG3 k r_4 (fun _ _ => 0)) := hD
  refine lv_aload_n hx hb dX6_init_47 rfl (lv_at hl 0 rfl) ?_
  refine lv_iconst (v := 0) hx hb dX6_init_48 (by decide) ?_
  refine va_put (D := D) (ci := 8) (v := .int 0) (ty := .int) (C := RX6) (T := TX6) (N := 7) hx hb hts kc_RX6 tyX6 tyX6_ok nmX6 hown hK hP hD hS 0 rfl rfl 6 (by decide) k_fieldLink_36 (fun _ h9 => h9) rfl (by decide +kernel) rfl rfl (Nat.le_of_ble_eq_true rfl) dX6_init_49 (fun H locs hP hD hS => ?_)
  have hP : va_P D vwCl (bO8 k h (.ref q_1) (.int 0) (.ref q_2) (.ref q_3) (.int 0) (.int 0) (.int 0) ++ bC60 k q_1 (fun _ => 0) ++ bFO k q_2 (fun _ => none) ++ bGI k q_3 r_4 ++ bG3 k r_4 (fun _ _ => 0)) H := hP
  have hD : va_D A (bO8 k h (.ref q_1) (.int 0) (.ref q_2) (.ref q_3) (.int 0) (.int 0) (.int 0) ++ bC60 k q_1 (fun _ => 0) ++ bFO k q_2 (fun _ => none) ++ bGI k q_3 r_4 ++ bG3 k r_4 (fun _ _ => 0)) := hD
  have hD : va_D A (bO8 k h (.ref q_1) (.int 0) (.ref q_2) (.ref q_3) (.int 0) (.int 0) (.int 0) ++ bC60 k q_1 (fun _ => 0) ++ bGI k q_3 r_4 ++ bG3 k r_4 (fun _ _ => 0) ++ bFO k q_2 (fun _ => none)) := hD.sub [0, 1, 3, 4, 5, 6, 7, 8, 9, 10, 11, 12, 13, 2] (by decide) rfl
  have hP : va_P D vwCl (bO8 k h (.ref q_1) (.int 0) (.ref q_2) (.ref q_3) (.int 0) (.int 0) (.int 0) ++ bC60 k q_1 (fun _ => 0) ++ bGI k q_3 r_4 ++ bG3 k r_4 (fun _ _ => 0) ++ bFO k q_2 (fun _ => none)) H := hP.sub [0, 1, 3, 4, 5, 6, 7, 8, 9, 10, 11, 12, 13, 2] rfl
  have hP : va_P D vwCl ((fun u9 : Nat × Nat × Nat × Nat × (Nat → Nat) => bCT k u9.1 u9.2.1 0 u9.2.2.1 u9.2.2.2.1 0 0 0 ++ bC60 k u9.2.1 (fun _ => 0) ++ bGI k u9.2.2.2.1 u9.2.2.2.2 ++ bG3 k u9.2.2.2.2 (fun _ _ => 0) ++ bFO k u9.2.2.1 (fun _ => none)) (h, q_1, q_2, q_3, r_4)) H := hP
  have hD : va_D A ((fun u9 : Nat × Nat × Nat × Nat × (Nat → Nat) => bCT k u9.1 u9.2.1 0 u9.2.2.1 u9.2.2.2.1 0 0 0 ++ bC60 k u9.2.1 (fun _ => 0) ++ bGI k u9.2.2.2.1 u9.2.2.2.2 ++ bG3 k u9.2.2.2.2 (fun _ _ => 0) ++ bFO k u9.2.2.1 (fun _ => none)) (h, q_1, q_2, q_3, r_4)) := hD
  refine W.widen (k := 13) (n := 110) (Nat.le_of_ble_eq_true rfl) (Nat.le_of_ble_eq_true rfl) ?_
  exact W.vret hx hb hr (fun t9 ht hW => ⟨⟨(h, q_1, q_2, q_3, r_4), rfl, rfl, ⟨by rw [ht]; exact hP, va_K.moved hW.alike hK, hD⟩⟩, hS.F ht⟩) hS.2.2 dX6_init_52 hlocks
