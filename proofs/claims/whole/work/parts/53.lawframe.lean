/-! The law's frame: worlds in two pieces; its calls. -/
/-- what stands fast in the law's walk: the machine, the tables' words, the script -/
def LC (ks kv kf : Nat → Nat) (ka kw : Nat) (D : va_G) (k : Nat → ClassId) (p : Program) (s : State) (m : MethodId) (c : Code) (A : Nat → Prop) (b L : Nat) (xs : Nat → Int32) : Prop :=
  CallFix p m c cL_law 10 s #[Value.ref b] wsL_law RL ∧ va_K D vwCl (tyL k) s ∧ NW s ∧ XN s ∧ (∀ q ∈ ncL, va_Nc q.1 q.2 s) ∧ XZ A s s.heap ∧ KC ks kv kf ka kw A s s.heap ∧ (∀ q : Nat, s.heap.size ≤ q → A q) ∧ va_X b L xs s s.heap ∧ b < s.heap.size ∧ ¬ A b
section LAWB
variable {p : Program} {l : Launch} {e : Env} {s : State} {m : MethodId} {below : List Frame} {meth : Method} {c : Code} {H : Heap} {locs : List Loc} {cells slots : Nat} {Q : State → Prop}
variable {pc : Nat} {ls : Array Slot} {D : va_G} {k : Nat → ClassId} {A : Nat → Prop} {wa wb wc wc' wr : va_W} {ks kv kf : Nat → Nat} {ka kw b L : Nat} {xs : Nat → Int32} {As rest st0 : List Value} {o ci : Nat} {fs : List Value}
theorem l_P1 (hP : va_P D vwCl (wc ++ wr) H) : va_P D vwCl wc H := fun _ _ hq => vP_mem hP (List.mem_append_left _ (List.mem_of_getElem? hq))
theorem l_P2 (hP : va_P D vwCl (wc ++ wr) H) : va_P D vwCl wr H := fun _ _ hq => vP_mem hP (List.mem_append_right _ (List.mem_of_getElem? hq))
theorem l_sw : (wa ++ (wb ++ wr)).Perm (wb ++ (wa ++ wr)) := by
  rw [← List.append_assoc, ← List.append_assoc]
  exact List.Perm.append_right _ List.perm_append_comm
theorem l_swP (hP : va_P D vwCl (wa ++ (wb ++ wr)) H) : va_P D vwCl (wb ++ (wa ++ wr)) H := vP_perm hP l_sw
theorem l_swD (hD : va_D A (wa ++ (wb ++ wr))) : va_D A (wb ++ (wa ++ wr)) := vD_perm hD l_sw
theorem l_D1 (hD : va_D A (wc ++ wr)) : va_D A wc := by
  refine hD.by id (fun i q hq => ?_) (fun i j _ _ e => e)
  show (wc ++ wr)[i]? = some q
  rw [List.getElem?_append_left (List.getElem?_eq_some_iff.mp hq).1]
  exact hq
theorem l_D2 (hD : va_D A (wc ++ wr)) : va_D A wr := l_D1 (vD_perm hD List.perm_append_comm)
theorem l_free {H0 : Heap} (hD : va_D A (wc ++ wr)) (hS : va_S A H0 H locs) (hA : ∀ q : Nat, H0.size ≤ q → A q) : ∀ q, va_A wc H.size q → A q := by
  intro q h
  rcases h with ⟨i, x, h⟩ | h
  · exact vD_mem hD (q := (q, x)) (List.mem_append_left _ (List.mem_of_getElem? h))
  · exact hA q (Nat.le_trans hS.1 h)
theorem l_join {t : State} {H1 : Heap} {u : Unit} (hP : va_P D vwCl (wc ++ wr) H) (hD : va_D A (wc ++ wr)) (hk1 : ∀ q : Nat, q < H.size → ¬ va_A wc H.size q → H1[q]? = H[q]?) (hFc : ∀ q, va_A wc H.size q → A q) (hB : WB D k (va_A wc H.size) wc' u t) (ht : t.heap = H1) : va_P D vwCl (wc' ++ wr) H1 ∧ va_D A (wc' ++ wr) := by
  obtain ⟨h1, _, h3⟩ := hB
  rw [ht] at h1
  have at2 : ∀ (i : Nat) (q : Nat × va_E), wr[i]? = some q → (wc ++ wr)[wc.length + i]? = some q := by
    intro i q hq
    rw [List.getElem?_append_right (Nat.le_add_right _ _), Nat.add_sub_cancel_left]
    exact hq
  have apart : ∀ (i : Nat) (q : Nat × va_E), wr[i]? = some q → q.1 < H.size ∧ ¬ va_A wc H.size q.1 := by
    intro i q hq
    have hl := (hP _ q (at2 i q hq)).lt
    refine ⟨hl, fun h => ?_⟩
    rcases h with ⟨j, x, h⟩ | h
    · have hj : j < wc.length := (List.getElem?_eq_some_iff.mp h).1
      have h2 : (wc ++ wr)[j]? = some (q.1, x) := by rw [List.getElem?_append_left hj]; exact h
      have := hD.1 _ _ q (q.1, x) (at2 i q hq) h2 rfl
      omega
    · omega
  refine ⟨va_P.app h1 (fun i q hq => ?_), va_D.app (h3.weaken (fun i q _ h => hFc q.1 h)) (l_D2 hD) (fun i j x y hx hy hxy => ?_)⟩
  · obtain ⟨g1, g2⟩ := apart i q hq
    exact (hP _ q (at2 i q hq)).kept (hk1 q.1 g1 g2)
  · exact (apart j y hy).2 (by rw [← hxy]; exact h3.2 i x hx)
theorem l_preV (hK : va_K D vwCl (tyL k) s) (hN : NW s) (hP : va_P D vwCl wc H) (hD : va_D A wc) (he : wc[0]? = some (o, .inr (ci, fs))) {r : vw_C} (hc : vwCl[ci]? = some r) : PreV s H r.1 o (WPc D k (.ref o :: As) wc H.size) As :=
  ⟨WPc.blind, va_recv hK hP hc he, fun U hU hW => ⟨rfl, by rw [hU], by rw [hU]; exact hP, va_K.moved hW.alike hK, NW.warm hW hN, hD.weaken (fun _ _ _ _ => trivial)⟩⟩
theorem l_preR (hK : va_K D vwCl (tyL k) s) (hN : NW s) (hP : va_P D vwCl wc H) (he : wc[0]? = some (o, .inr (ci, fs))) {r : vw_C} (hc : vwCl[ci]? = some r) : PreV s H r.1 o (RPc D k (.ref o :: As) wc) As :=
  ⟨RPc.blind, va_recv hK hP hc he, fun U hU hW => ⟨rfl, by rw [hU]; exact hP, va_K.moved hW.alike hK, NW.warm hW hN⟩⟩
/-- the script's ints -/
theorem l_sld (C9 : LC ks kv kf ka kw D k p s m c A b L xs) (hS : va_S A s.heap H locs) (j : Nat) (hj : j < L) (hL : L ≤ 2048) (hdg : decode cL_law pc = .ok (.iaload, 1)) (kk : W p l e room_1 s m #[Value.ref b] below meth c H locs cells slots Q (F0 m (pc + 1) ls (.int (xs j) :: rest))) : W p l e room_1 s m #[Value.ref b] below meth c H locs cells slots Q (F0 m pc ls (.int (nI j) :: .ref b :: rest)) := by
  obtain ⟨⟨hx, hb, -, -, -⟩, -, -, -, -, -, -, -, hX, hbl, hbA⟩ := C9
  refine va_sld hx hb hX hbl hbA hS (vp_in_nI hj (by omega)) hdg ?_
  rw [nI_clamp (by omega)]
  exact kk
theorem l_la {out i9 : Nat} {ou : Nat → Int64} (C9 : LC ks kv kf ka kw D k p s m c A b L xs) (hP : va_P D vwCl wc H) (ho : wc[i9]? = some (out, .inl (k 3, 1, .inr (.inl ou)))) (hdg : decode cL_law pc = .ok (.laload, 1)) (kk : W p l e room_1 s m #[Value.ref b] below meth c H locs cells slots Q (F0 m (pc + 1) ls (.long (ou 0) :: rest))) : W p l e room_1 s m #[Value.ref b] below meth c H locs cells slots Q (F0 m pc ls (.int 0 :: .ref out :: rest)) := by
  obtain ⟨⟨hx, hb, -, -, -⟩, hK, -⟩ := C9
  exact la_ld hx hb hK hP i9 ho 0 (by decide) (by decide) hdg kk
theorem l_da {out i9 : Nat} {ou : Nat → UInt64} (C9 : LC ks kv kf ka kw D k p s m c A b L xs) (hP : va_P D vwCl wc H) (ho : wc[i9]? = some (out, .inl (k 8, 1, .inr (.inr (.inr (.inl ou)))))) (hdg : decode cL_law pc = .ok (.daload, 1)) (kk : W p l e room_1 s m #[Value.ref b] below meth c H locs cells slots Q (F0 m (pc + 1) ls (.double (ou 0) :: rest))) : W p l e room_1 s m #[Value.ref b] below meth c H locs cells slots Q (F0 m pc ls (.int 0 :: .ref out :: rest)) := by
  obtain ⟨⟨hx, hb, -, -, -⟩, hK, -⟩ := C9
  exact da_ld hx hb hK hP i9 ho 0 (by decide) (by decide) hdg kk
variable {y : MethodName} {bytes : ByteArray} {maxL idx n : Nat} {ret : Option FieldType} {hh : List (Nat × Nat × Nat × Nat)} {ws ws' : List Cond} {rm : Room} {C : String}
/-- a call of a wrapper -/
theorem lw_S {x : Int32} (C9 : LC ks kv kf ka kw D k p s m c A b L xs) (hT : GoodIn wsL_law (va_wsS RL idx y ws)) (hw : ws = Cond.codeWith y bytes maxL ret hh :: ws') (hrm : rm.cells = 1 ∧ rm.slots = 6 ∧ rm.frames + 1 ≤ 2048 ∧ 8 + (maxL + 11) + rm.locals ≤ 94400)
    (hd : y.cls ≠ "java/lang/invoke/MethodHandle" ∧ y.cls ≠ "java/lang/invoke/VarHandle" ∧ (parseMethodDescriptor y.desc).map (fun d => d.parameters.length) = some n) (hn : As.length = n)
    (hM : Met l y ws rm (LPc ks kv kf ka kw D k As wc H.size) (WI D k wc' x (va_A wc H.size)) 1 6 (va_A wc H.size)) (hc : cells + 1 ≤ 603072) (hsl : slots + 6 ≤ 7182442) (hP : va_P D vwCl (wc ++ wr) H) (hD : va_D A (wc ++ wr)) (hS : va_S A s.heap H locs) (hlz : ls.size = 10) (hst : st0 = As.reverse ++ rest) (hW : (rest.map fun v => v.category).sum ≤ 8) (hdg : decode cL_law pc = .ok (.invokestatic idx, 3))
    (kk : ∀ (H : Heap) (locs : List Loc), va_P D vwCl (wc' ++ wr) H → va_D A (wc' ++ wr) → va_S A s.heap H locs → W p l e room_1 s m #[Value.ref b] below meth c H locs (cells + 1) (slots + 6) Q (F0 m (pc + 3) ls (.int x :: rest))) : W p l e room_1 s m #[Value.ref b] below meth c H locs cells slots Q (F0 m pc ls st0) := by
  obtain ⟨hF, hK, hN, hXN, hNC, hZ, hKC, hA, hX, hbl, hbA⟩ := C9
  obtain ⟨hx, hb, hml, hown, hts⟩ := id hF
  have hFc := l_free hD hS hA
  refine va_calli (vx_runSW (As := As) (rest := rest) hF hM (vx_cwSW n hts hT hw hrm.1 hrm.2.1 hd hrm.2.2) (lPreS hK hN hXN hNC hZ hKC hS hFc (l_P1 hP) (l_D1 hD)) rfl hn hlz hst (lv_room hW) hdg ⟨hc, hsl⟩) hS (fun q _ h => hFc q h) hFc (fun r8 u9 t9 H1 locs1 ht hvm hw9 hB hz1 hk1 hS => ?_)
  obtain ⟨hP, hD⟩ := l_join hP hD hk1 hFc hB ht
  rw [hw9]
  exact kk H1 locs1 hP hD hS
theorem lw_Vi {x : Int32} (C9 : LC ks kv kf ka kw D k p s m c A b L xs) (hT : GoodIn wsL_law (wsV RL idx C y ws)) (hw : ws = Cond.code y bytes maxL ret :: ws') (hrm : rm.cells = 0 ∧ rm.slots = 0 ∧ rm.frames + 1 ≤ 2048 ∧ 8 + (maxL + 11) + rm.locals ≤ 94400)
    (hd : y.cls = C ∧ y.cls ≠ "java/lang/invoke/MethodHandle" ∧ y.cls ≠ "java/lang/invoke/VarHandle" ∧ (parseMethodDescriptor y.desc).map (fun d => d.parameters.length) = some n) (hn : As.length = n) (h0 : wc[0]? = some (o, .inr (ci, fs))) {r9 : vw_C} (hc0 : vwCl[ci]? = some r9) (hC : r9.1 = C)
    (hM : Met l y ws rm (WPc D k (.ref o :: As) wc H.size) (WI D k wc' x (va_A wc H.size)) 0 0 (va_A wc H.size)) (hc : cells ≤ 603072) (hsl : slots ≤ 7182442) (hP : va_P D vwCl (wc ++ wr) H) (hD : va_D A (wc ++ wr)) (hS : va_S A s.heap H locs) (hlz : ls.size = 10) (hst : st0 = As.reverse ++ .ref o :: rest) (hW : (rest.map fun v => v.category).sum ≤ 8) (hdg : decode cL_law pc = .ok (.invokevirtual idx, 3))
    (kk : ∀ (H : Heap) (locs : List Loc), va_P D vwCl (wc' ++ wr) H → va_D A (wc' ++ wr) → va_S A s.heap H locs → W p l e room_1 s m #[Value.ref b] below meth c H locs cells slots Q (F0 m (pc + 3) ls (.int x :: rest))) : W p l e room_1 s m #[Value.ref b] below meth c H locs cells slots Q (F0 m pc ls st0) := by
  obtain ⟨hF, hK, hN, hXN, hNC, hZ, hKC, hA, hX, hbl, hbA⟩ := C9
  obtain ⟨hx, hb, hml, hown, hts⟩ := id hF
  have hFc := l_free hD hS hA
  subst hC
  refine va_calli (va_runV (As := As) (rest := rest) hF hM (cwV n hts hT hw hrm.1 hrm.2.1 hd hrm.2.2) (l_preV hK hN (l_P1 hP) (l_D1 hD) h0 hc0) rfl hn hlz hst (lv_room hW) hdg ⟨hc, hsl⟩) hS (fun q _ h => hFc q h) hFc (fun r8 u9 t9 H1 locs1 ht hvm hw9 hB hz1 hk1 hS => ?_)
  obtain ⟨hP, hD⟩ := l_join hP hD hk1 hFc hB ht
  rw [hw9]
  exact kk H1 locs1 hP hD hS
theorem lw_Vf {x : UInt32} (C9 : LC ks kv kf ka kw D k p s m c A b L xs) (hT : GoodIn wsL_law (wsV RL idx C y ws)) (hw : ws = Cond.code y bytes maxL ret :: ws') (hrm : rm.cells = 0 ∧ rm.slots = 0 ∧ rm.frames + 1 ≤ 2048 ∧ 8 + (maxL + 11) + rm.locals ≤ 94400)
    (hd : y.cls = C ∧ y.cls ≠ "java/lang/invoke/MethodHandle" ∧ y.cls ≠ "java/lang/invoke/VarHandle" ∧ (parseMethodDescriptor y.desc).map (fun d => d.parameters.length) = some n) (hn : As.length = n) (h0 : wc[0]? = some (o, .inr (ci, fs))) {r9 : vw_C} (hc0 : vwCl[ci]? = some r9) (hC : r9.1 = C)
    (hM : Met l y ws rm (WPc D k (.ref o :: As) wc H.size) (WF D k wc' x (va_A wc H.size)) 0 0 (va_A wc H.size)) (hc : cells ≤ 603072) (hsl : slots ≤ 7182442) (hP : va_P D vwCl (wc ++ wr) H) (hD : va_D A (wc ++ wr)) (hS : va_S A s.heap H locs) (hlz : ls.size = 10) (hst : st0 = As.reverse ++ .ref o :: rest) (hW : (rest.map fun v => v.category).sum ≤ 8) (hdg : decode cL_law pc = .ok (.invokevirtual idx, 3))
    (kk : ∀ (H : Heap) (locs : List Loc), va_P D vwCl (wc' ++ wr) H → va_D A (wc' ++ wr) → va_S A s.heap H locs → W p l e room_1 s m #[Value.ref b] below meth c H locs cells slots Q (F0 m (pc + 3) ls (.float x :: rest))) : W p l e room_1 s m #[Value.ref b] below meth c H locs cells slots Q (F0 m pc ls st0) := by
  obtain ⟨hF, hK, hN, hXN, hNC, hZ, hKC, hA, hX, hbl, hbA⟩ := C9
  obtain ⟨hx, hb, hml, hown, hts⟩ := id hF
  have hFc := l_free hD hS hA
  subst hC
  refine va_callf (va_runV (As := As) (rest := rest) hF hM (cwV n hts hT hw hrm.1 hrm.2.1 hd hrm.2.2) (l_preV hK hN (l_P1 hP) (l_D1 hD) h0 hc0) rfl hn hlz hst (lv_room hW) hdg ⟨hc, hsl⟩) hS (fun q _ h => hFc q h) hFc (fun r8 u9 t9 H1 locs1 ht hvm hw9 hB hz1 hk1 hS => ?_)
  obtain ⟨hP, hD⟩ := l_join hP hD hk1 hFc hB ht
  rw [hw9]
  exact kk H1 locs1 hP hD hS
theorem lw_Vl {x : Int64} (C9 : LC ks kv kf ka kw D k p s m c A b L xs) (hT : GoodIn wsL_law (wsV RL idx C y ws)) (hw : ws = Cond.code y bytes maxL ret :: ws') (hrm : rm.cells = 0 ∧ rm.slots = 0 ∧ rm.frames + 1 ≤ 2048 ∧ 8 + (maxL + 11) + rm.locals ≤ 94400)
    (hd : y.cls = C ∧ y.cls ≠ "java/lang/invoke/MethodHandle" ∧ y.cls ≠ "java/lang/invoke/VarHandle" ∧ (parseMethodDescriptor y.desc).map (fun d => d.parameters.length) = some n) (hn : As.length = n) (h0 : wc[0]? = some (o, .inr (ci, fs))) {r9 : vw_C} (hc0 : vwCl[ci]? = some r9) (hC : r9.1 = C)
    (hM : Met l y ws rm (WPc D k (.ref o :: As) wc H.size) (WL D k wc' x (va_A wc H.size)) 0 0 (va_A wc H.size)) (hc : cells ≤ 603072) (hsl : slots ≤ 7182442) (hP : va_P D vwCl (wc ++ wr) H) (hD : va_D A (wc ++ wr)) (hS : va_S A s.heap H locs) (hlz : ls.size = 10) (hst : st0 = As.reverse ++ .ref o :: rest) (hW : (rest.map fun v => v.category).sum ≤ 8) (hdg : decode cL_law pc = .ok (.invokevirtual idx, 3))
    (kk : ∀ (H : Heap) (locs : List Loc), va_P D vwCl (wc' ++ wr) H → va_D A (wc' ++ wr) → va_S A s.heap H locs → W p l e room_1 s m #[Value.ref b] below meth c H locs cells slots Q (F0 m (pc + 3) ls (.long x :: rest))) : W p l e room_1 s m #[Value.ref b] below meth c H locs cells slots Q (F0 m pc ls st0) := by
  obtain ⟨hF, hK, hN, hXN, hNC, hZ, hKC, hA, hX, hbl, hbA⟩ := C9
  obtain ⟨hx, hb, hml, hown, hts⟩ := id hF
  have hFc := l_free hD hS hA
  subst hC
  refine va_calll (va_runV (As := As) (rest := rest) hF hM (cwV n hts hT hw hrm.1 hrm.2.1 hd hrm.2.2) (l_preV hK hN (l_P1 hP) (l_D1 hD) h0 hc0) rfl hn hlz hst (lv_room hW) hdg ⟨hc, hsl⟩) hS (fun q _ h => hFc q h) hFc (fun r8 u9 t9 H1 locs1 ht hvm hw9 hB hz1 hk1 hS => ?_)
  obtain ⟨hP, hD⟩ := l_join hP hD hk1 hFc hB ht
  rw [hw9]
  exact kk H1 locs1 hP hD hS
theorem lw_Vd {x : UInt64} (C9 : LC ks kv kf ka kw D k p s m c A b L xs) (hT : GoodIn wsL_law (wsV RL idx C y ws)) (hw : ws = Cond.code y bytes maxL ret :: ws') (hrm : rm.cells = 0 ∧ rm.slots = 0 ∧ rm.frames + 1 ≤ 2048 ∧ 8 + (maxL + 11) + rm.locals ≤ 94400)
    (hd : y.cls = C ∧ y.cls ≠ "java/lang/invoke/MethodHandle" ∧ y.cls ≠ "java/lang/invoke/VarHandle" ∧ (parseMethodDescriptor y.desc).map (fun d => d.parameters.length) = some n) (hn : As.length = n) (h0 : wc[0]? = some (o, .inr (ci, fs))) {r9 : vw_C} (hc0 : vwCl[ci]? = some r9) (hC : r9.1 = C)
    (hM : Met l y ws rm (WPc D k (.ref o :: As) wc H.size) (WD D k wc' x (va_A wc H.size)) 0 0 (va_A wc H.size)) (hc : cells ≤ 603072) (hsl : slots ≤ 7182442) (hP : va_P D vwCl (wc ++ wr) H) (hD : va_D A (wc ++ wr)) (hS : va_S A s.heap H locs) (hlz : ls.size = 10) (hst : st0 = As.reverse ++ .ref o :: rest) (hW : (rest.map fun v => v.category).sum ≤ 8) (hdg : decode cL_law pc = .ok (.invokevirtual idx, 3))
    (kk : ∀ (H : Heap) (locs : List Loc), va_P D vwCl (wc' ++ wr) H → va_D A (wc' ++ wr) → va_S A s.heap H locs → W p l e room_1 s m #[Value.ref b] below meth c H locs cells slots Q (F0 m (pc + 3) ls (.double x :: rest))) : W p l e room_1 s m #[Value.ref b] below meth c H locs cells slots Q (F0 m pc ls st0) := by
  obtain ⟨hF, hK, hN, hXN, hNC, hZ, hKC, hA, hX, hbl, hbA⟩ := C9
  obtain ⟨hx, hb, hml, hown, hts⟩ := id hF
  have hFc := l_free hD hS hA
  subst hC
  refine va_calld (va_runV (As := As) (rest := rest) hF hM (cwV n hts hT hw hrm.1 hrm.2.1 hd hrm.2.2) (l_preV hK hN (l_P1 hP) (l_D1 hD) h0 hc0) rfl hn hlz hst (lv_room hW) hdg ⟨hc, hsl⟩) hS (fun q _ h => hFc q h) hFc (fun r8 u9 t9 H1 locs1 ht hvm hw9 hB hz1 hk1 hS => ?_)
  obtain ⟨hP, hD⟩ := l_join hP hD hk1 hFc hB ht
  rw [hw9]
  exact kk H1 locs1 hP hD hS
theorem lw_Ri {x : Int32} (C9 : LC ks kv kf ka kw D k p s m c A b L xs) (hT : GoodIn wsL_law (wsV RL idx C y ws)) (hw : ws = Cond.code y bytes maxL ret :: ws') (hrm : rm.cells = 0 ∧ rm.slots = 0 ∧ rm.frames + 1 ≤ 2048 ∧ 8 + (maxL + 11) + rm.locals ≤ 94400)
    (hd : y.cls = C ∧ y.cls ≠ "java/lang/invoke/MethodHandle" ∧ y.cls ≠ "java/lang/invoke/VarHandle" ∧ (parseMethodDescriptor y.desc).map (fun d => d.parameters.length) = some n) (hn : As.length = n) (h0 : wc[0]? = some (o, .inr (ci, fs))) {r9 : vw_C} (hc0 : vwCl[ci]? = some r9) (hC : r9.1 = C)
    (hM : Met l y ws rm (RPc D k (.ref o :: As) wc) (EI x) 0 0 noA) (hc : cells ≤ 603072) (hsl : slots ≤ 7182442) (hP : va_P D vwCl wc H) (hlz : ls.size = 10) (hst : st0 = As.reverse ++ .ref o :: rest) (hW : (rest.map fun v => v.category).sum ≤ 8) (hdg : decode cL_law pc = .ok (.invokevirtual idx, 3))
    (kk : W p l e room_1 s m #[Value.ref b] below meth c H locs cells slots Q (F0 m (pc + 3) ls (.int x :: rest))) : W p l e room_1 s m #[Value.ref b] below meth c H locs cells slots Q (F0 m pc ls st0) := by
  obtain ⟨hF, hK, hN, hXN, hNC, hZ, hKC, hA, hX, hbl, hbA⟩ := C9
  obtain ⟨hx, hb, hml, hown, hts⟩ := id hF
  subst hC
  refine vp_callSi (W.runV (As := As) (rest := rest) hF hM (cwV n hts hT hw hrm.1 hrm.2.1 hd hrm.2.2) (l_preR hK hN hP h0 hc0) rfl hn hlz hst (lv_room hW) hdg ⟨hc, hsl⟩) (fun r8 h8 => ?_)
  rw [h8]
  exact kk
theorem lw_Rf {x : UInt32} (C9 : LC ks kv kf ka kw D k p s m c A b L xs) (hT : GoodIn wsL_law (wsV RL idx C y ws)) (hw : ws = Cond.code y bytes maxL ret :: ws') (hrm : rm.cells = 0 ∧ rm.slots = 0 ∧ rm.frames + 1 ≤ 2048 ∧ 8 + (maxL + 11) + rm.locals ≤ 94400)
    (hd : y.cls = C ∧ y.cls ≠ "java/lang/invoke/MethodHandle" ∧ y.cls ≠ "java/lang/invoke/VarHandle" ∧ (parseMethodDescriptor y.desc).map (fun d => d.parameters.length) = some n) (hn : As.length = n) (h0 : wc[0]? = some (o, .inr (ci, fs))) {r9 : vw_C} (hc0 : vwCl[ci]? = some r9) (hC : r9.1 = C)
    (hM : Met l y ws rm (RPc D k (.ref o :: As) wc) (EF x) 0 0 noA) (hc : cells ≤ 603072) (hsl : slots ≤ 7182442) (hP : va_P D vwCl wc H) (hlz : ls.size = 10) (hst : st0 = As.reverse ++ .ref o :: rest) (hW : (rest.map fun v => v.category).sum ≤ 8) (hdg : decode cL_law pc = .ok (.invokevirtual idx, 3))
    (kk : W p l e room_1 s m #[Value.ref b] below meth c H locs cells slots Q (F0 m (pc + 3) ls (.float x :: rest))) : W p l e room_1 s m #[Value.ref b] below meth c H locs cells slots Q (F0 m pc ls st0) := by
  obtain ⟨hF, hK, hN, hXN, hNC, hZ, hKC, hA, hX, hbl, hbA⟩ := C9
  obtain ⟨hx, hb, hml, hown, hts⟩ := id hF
  subst hC
  refine vp_callSf (W.runV (As := As) (rest := rest) hF hM (cwV n hts hT hw hrm.1 hrm.2.1 hd hrm.2.2) (l_preR hK hN hP h0 hc0) rfl hn hlz hst (lv_room hW) hdg ⟨hc, hsl⟩) (fun r8 h8 => ?_)
  rw [h8]
  exact kk
end LAWB

set_option maxHeartbeats 4000000 in
set_option maxRecDepth 100000 in
theorem m_X13_thrown (l9 : Launch) (D : va_G) (k : Nat → ClassId) (q : Nat → Nat) (th ea fa : Int32) (ch tn he en ln : Nat) (sv wr dg : Bool) : Met l9 yX13_thrown wsX13_thrown ({ frames := 0, cells := 0, slots := 0, locals := 0 }) (RPc D k [.ref (q 0)] (bMO k q th ea fa ch tn he en ln sv wr dg)) (EI th) 0 0 noA := by
  refine rMet (y := yX13_thrown) (cc := cX13_thrown) (maxL := 1) (ret := (some .int)) [.ref (q 0)] (by decide) rfl (Nat.le_of_ble_eq_true rfl) ?_
  intro p9 e9 s9 m9 bl9 me9 c9 ls hF hr hlocks hP hK hN hl
  have hl : lv_has ls 1 [(0, .ref (q 0))] := hl
  obtain ⟨hx, hb, hml, hown, hts⟩ := id hF
  have k_fieldLink_77 : (Cond.fieldLink RX13 77 "OpinionReactorModel" "thrown" "I").before _ s9 = true := hts (.fieldLink RX13 77 "OpinionReactorModel" "thrown" "I") (by decide +kernel)
  have kc_RX13 : ∀ w ∈ u_ws RX13 TX13 29, w ∈ wsX13_thrown := by decide +kernel
  refine lv_aload_n hx hb dX13_thrown_0 rfl (lv_at hl 0 rfl) ?_
  refine va_get (D := D) (ci := 11) (v := .int th) (C := RX13) (T := TX13) (N := 29) hx hb hts kc_RX13 hown hK hP 0 rfl rfl 0 (by decide) k_fieldLink_77 (fun _ h9 => h9) rfl dX13_thrown_1 ?_
  exact W.iret (v := th) hx hb hr (fun t9 ht hW => ⟨_, rfl, (by rfl), ht⟩) (fun _ h => by cases h) dX13_thrown_4 hlocks

