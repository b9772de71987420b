/-! Rows for bytes, for texts that are constants, for receivers; the pieces of a world in another order. -/
section BYROWS
variable {p : Program} {l : Launch} {e : Env} {R : Room} {s : State} {m : MethodId} {args : Array Value} {below : List Frame} {meth : Method} {c : Code} {H H0 : Heap} {locs : List Loc} {cells slots : Nat} {Q : State → Prop}
variable {cc : ByteArray} {pc : Nat} {ls : Array Slot} {rest As : List Value} {E : EK} {D : va_G} {k : Nat → ClassId} {A : Nat → Prop} {ws wc : va_W} {a b : Nat}
theorem va_ldcwS (hexec : p.tables.exec = Jvm.exec) (hb : c.code = cc) {own tx : String} {index q : Nat} (hown : s.vm.findClass own = some m.cls) (hZ : vk_R own index tx q s) (hdg : decode cc pc = .ok (.ldc_w index, 3))
    (kk : W p l e R s m args below meth c H locs cells slots Q (F0 m (pc + 3) ls (.ref q :: rest))) : W p l e R s m args below meth c H locs cells slots Q (F0 m pc ls rest) := by
  intro T hT X
  obtain ⟨t, a1, b1⟩ := kk T hT X
  exact ⟨t, X.ldcStringW hexec hown (text := tx) (a := q) hZ.1 hZ.2 (g := F0 m pc ls rest) rfl (by rw [hb]; exact hdg) t a1, b1⟩
theorem by_ld (hexec : p.tables.exec = Jvm.exec) (hb : c.code = cc) (hK : va_K D vwCl (tyL k) s) (hP : va_P D vwCl ws H) (q0 : Nat) {n : Nat} {f : Nat → Int32} (ha : ws[q0]? = some (a, .inl (k 8, n, .inl f))) (j : Nat) (hj : j < n) (hn : n < 2 ^ 31) (hdg : decode cc pc = .ok (.baload, 1)) (kk : W p l e R s m args below meth c H locs cells slots Q (F0 m (pc + 1) ls (.int (f j) :: rest))) : W p l e R s m args below meth c H locs cells slots Q (F0 m pc ls (.int (nI j) :: .ref a :: rest)) := by
  refine va_bald hexec hb hK hP q0 8 ha rfl (vp_in_nI hj hn) hdg ?_
  rw [nI_clamp (Nat.lt_trans hj hn)]
  exact kk
theorem by_st (hexec : p.tables.exec = Jvm.exec) (hb : c.code = cc) (hK : va_K D vwCl (tyL k) s) (hP : va_P D vwCl ws H) (hD : va_D A ws) (hS : va_S A H0 H locs) (q0 : Nat) {n : Nat} {f : Nat → Int32} (ha : ws[q0]? = some (a, .inl (k 8, n, .inl f))) (j : Nat) {x : Int32} (hj : j < n) (hn : n < 2 ^ 31) (hx : vp_nar .byte x = x) (wf : va_W) (hf : ws.set q0 (a, .inl (k 8, n, .inl (upd f j x))) = wf) (hdg : decode cc pc = .ok (.bastore, 1)) (kk : ∀ (H1 : Heap) (locs1 : List Loc), va_P D vwCl wf H1 → va_D A wf → va_S A H0 H1 locs1 → W p l e R s m args below meth c H1 locs1 cells slots Q (F0 m (pc + 1) ls rest)) : W p l e R s m args below meth c H locs cells slots Q (F0 m pc ls (.int x :: .int (nI j) :: .ref a :: rest)) := by
  refine va_bast hexec hb hK hP hD hS q0 8 ha rfl (vp_in_nI hj hn) hdg ?_
  rw [nI_clamp (Nat.lt_trans hj hn), hx, hf]
  exact kk
/-- n of f's values, from sq on, laid into g from dq on -/
def cpy (g : Nat → Int32) (dq : Nat) (f : Nat → Int32) (sq n : Nat) : Nat → Int32 := va_cpy f g sq dq n
theorem cpy_at (g : Nat → Int32) (dq : Nat) (f : Nat → Int32) (sq n j : Nat) : cpy g dq f sq n j = if dq ≤ j ∧ j < dq + n then f (sq + (j - dq)) else g j := rfl
theorem by_cp {a0 n0 n1 : Nat} {f g : Nat → Int32} {own : String} {index : Nat} (hexec : p.tables.exec = Jvm.exec) (hb : c.code = cc) (hml : c.maxLocals = ls.size) (hown : s.vm.findClass own = some m.cls) (hlink : (Cond.methodLink own index arraycopyName).before args s = true) (hnat : (Cond.native arraycopyName).before args s = true) (hstat : (Cond.static arraycopyName).before args s = true) (hini : (Cond.initialized "java/lang/System").before args s = true) (hK : va_K D vwCl (tyL k) s) (hP : va_P D vwCl ws H) (hD : va_D A ws) (hS : va_S A H0 H locs) (q0 q1 : Nat) (ha0 : ws[q0]? = some (a0, .inl (k 8, n0, .inl f))) (ha1 : ws[q1]? = some (a, .inl (k 8, n1, .inl g))) {sp dp n : Nat} {xs xd xn : Int32} (es : xs = nI sp) (ed : xd = nI dp) (en : xn = nI n) (hs : sp + n ≤ n0) (hd : dp + n ≤ n1) (hl0 : n0 < 2 ^ 31) (hl1 : n1 < 2 ^ 31) (hfit : ∀ i : Nat, i < n → fits .byte (.int (f (sp + i))) = true) (hframes : 1 ≤ R.frames) (hlocals : (rest.map fun v => v.category).sum + (nativeFrameWords "java/lang/System" "arraycopy" 5 + 11) ≤ R.locals) (wf : va_W) (hwf : ws.set q1 (a, .inl (k 8, n1, .inl (cpy g dp f sp n))) = wf) (hdg : decode cc pc = .ok (.invokestatic index, 3))
    (kk : ∀ (H1 : Heap) (locs1 : List Loc), va_P D vwCl wf H1 → va_D A wf → va_S A H0 H1 locs1 → W p l e R s m args below meth c H1 locs1 cells slots Q (F0 m (pc + 3) ls rest)) : W p l e R s m args below meth c H locs cells slots Q (F0 m pc ls (.int xn :: .int xd :: .ref a :: .int xs :: .ref a0 :: rest)) := by
  subst es; subst ed; subst en
  have c1 : (nI n).toNatClampNeg = n := nI_clamp (by omega)
  have c2 : (nI sp).toNatClampNeg = sp := nI_clamp (by omega)
  have c3 : (nI dp).toNatClampNeg = dp := nI_clamp (by omega)
  refine va_copyi hexec hb hml hown hlink hnat hstat hini hK hP hD hS q0 q1 8 8 ha0 ha1 rfl rfl rfl (nI_pos (by omega)) (nI_pos (by omega)) (nI_pos (by omega)) (by rw [c1, c2]; exact hs) (by rw [c1, c3]; exact hd) (fun i hi => by rw [c2]; exact hfit i (by rw [← c1]; exact hi)) hframes hlocals hdg ?_
  rw [c1, c2, c3]
  intro H1 l1 h1 h2
  exact kk H1 l1 (hwf ▸ h1) (hwf ▸ h2)
theorem by_cpT {b0 n0 n1 : Nat} {f g : Nat → Int32} {own : String} {index : Nat} (hexec : p.tables.exec = Jvm.exec) (hb : c.code = cc) (hml : c.maxLocals = ls.size) (hown : s.vm.findClass own = some m.cls) (hlink : (Cond.methodLink own index arraycopyName).before args s = true) (hnat : (Cond.native arraycopyName).before args s = true) (hstat : (Cond.static arraycopyName).before args s = true) (hini : (Cond.initialized "java/lang/System").before args s = true) (hK : va_K D vwCl (tyL k) s) (hP : va_P D vwCl ws H) (hD : va_D A ws) (hS : va_S A s.heap H locs) (hX : va_T .byte b0 n0 (fun j => .int (f j)) A s s.heap) (q1 : Nat) (ha1 : ws[q1]? = some (a, .inl (k 8, n1, .inl g))) {sp dp n : Nat} {xs xd xn : Int32} (es : xs = nI sp) (ed : xd = nI dp) (en : xn = nI n) (hs : sp + n ≤ n0) (hd : dp + n ≤ n1) (hl0 : n0 < 2 ^ 31) (hl1 : n1 < 2 ^ 31) (hfit : ∀ i : Nat, i < n → fits .byte (.int (f (sp + i))) = true) (hframes : 1 ≤ R.frames) (hlocals : (rest.map fun v => v.category).sum + (nativeFrameWords "java/lang/System" "arraycopy" 5 + 11) ≤ R.locals) (wf : va_W) (hwf : ws.set q1 (a, .inl (k 8, n1, .inl (cpy g dp f sp n))) = wf) (hdg : decode cc pc = .ok (.invokestatic index, 3))
    (kk : ∀ (H1 : Heap) (locs1 : List Loc), va_P D vwCl wf H1 → va_D A wf → va_S A s.heap H1 locs1 → W p l e R s m args below meth c H1 locs1 cells slots Q (F0 m (pc + 3) ls rest)) : W p l e R s m args below meth c H locs cells slots Q (F0 m pc ls (.int xn :: .int xd :: .ref a :: .int xs :: .ref b0 :: rest)) := by
  subst es; subst ed; subst en
  have c1 : (nI n).toNatClampNeg = n := nI_clamp (by omega)
  have c2 : (nI sp).toNatClampNeg = sp := nI_clamp (by omega)
  have c3 : (nI dp).toNatClampNeg = dp := nI_clamp (by omega)
  refine vk_copyt hexec hb hml hown hlink hnat hstat hini hK hP hD hS hX q1 8 ha1 rfl (nI_pos (by omega)) (nI_pos (by omega)) (nI_pos (by omega)) (by rw [c1, c2]; exact hs) (by rw [c1, c3]; exact hd) (fun i hi => by rw [c2]; exact hfit i (by rw [← c1]; exact hi)) hframes hlocals hdg ?_
  rw [c1, c2, c3]
  intro H1 l1 h1 h2
  exact kk H1 l1 (hwf ▸ h1) (hwf ▸ h2)
/-- a receiver that the world holds -/
theorem rcv (hK : va_K D vwCl (tyL k) s) (hP : va_P D vwCl ws H) (i0 ci : Nat) {fs : List Value} (he : ws[i0]? = some (b, .inr (ci, fs))) {r : vw_C} (hc : vwCl[ci]? = some r) : ∃ cell : Cell, H[b]? = some cell ∧ cell.vm.isStatics = false ∧ s.vm.findClass r.1 = some cell.cls := va_recv hK hP hc he
theorem tPreI (hK : va_K D vwCl (tyL k) s) (hE : ENV E A s s.heap) (hS : va_S A s.heap H locs) (hA : ∀ q : Nat, s.heap.size ≤ q → A q) (hP : va_P D vwCl ws H) (hD : va_D A ws) : PreS s H (TPc E D k As ws H.size) As := tPreS hK hE hS hA hP hD
end BYROWS
theorem nI_nn {n : Nat} (h : n < 2 ^ 31) : ¬ nI n < 0 := nI_pos h
theorem pmX {w a : va_W} (h : w.Perm (a ++ [])) : w.Perm a := by rw [List.append_nil] at h; exact h
theorem pmL (a b : va_W) : (a ++ b).Perm (b ++ a) := List.perm_append_comm
theorem pa2 (a b r : va_W) : (a ++ (b ++ r)).Perm ((a ++ b) ++ r) := by rw [List.append_assoc]
theorem pa3 (a b c r : va_W) : (a ++ (b ++ (c ++ r))).Perm ((a ++ (b ++ c)) ++ r) := by rw [List.append_assoc, List.append_assoc]
theorem pa4 (a b c d r : va_W) : (a ++ (b ++ (c ++ (d ++ r)))).Perm ((a ++ (b ++ (c ++ d))) ++ r) := by rw [List.append_assoc, List.append_assoc, List.append_assoc]
theorem pb2 (a b r : va_W) : ((a ++ b) ++ r).Perm (a ++ (b ++ r)) := (pa2 a b r).symm
theorem pb3 (a b c r : va_W) : ((a ++ (b ++ c)) ++ r).Perm (a ++ (b ++ (c ++ r))) := (pa3 a b c r).symm
theorem pb4 (a b c d r : va_W) : ((a ++ (b ++ (c ++ d))) ++ r).Perm (a ++ (b ++ (c ++ (d ++ r)))) := (pa4 a b c d r).symm
theorem vP_left {D : va_G} {cl : List vw_C} {a r : va_W} {H : Heap} (h : va_P D cl (a ++ r) H) : va_P D cl a H := vP_all (fun q hq => vP_mem h (List.mem_append_left _ hq))
/-! Texts. -/
/-- the first letters of f are l -/
def Tx (f : Nat → Int32) (l : List Int32) : Prop := ∀ j, j < l.length → f j = l.getD j 0
/-- a letter of 7 bits -/
def l7 (x : Int32) : Prop := ∃ q : Nat, q < 128 ∧ x = nI q
def T7 (l : List Int32) : Prop := ∀ x, x ∈ l → l7 x
theorem by7 {x : Int32} (h : l7 x) : x.toInt8.toInt32 = x := by
  obtain ⟨q, hq, rfl⟩ := h
  exact b7 hq
theorem nar7 {x : Int32} (h : l7 x) : vp_nar .byte x = x := by
  rw [vp_nar_byte]
  exact by7 h
theorem fit7 {x : Int32} (h : l7 x) : fits .byte (.int x) = true := by
  have := pk_fb x
  rw [by7 h] at this
  exact this
theorem T7_at {l : List Int32} (h : T7 l) {j : Nat} (hj : j < l.length) : l7 (l.getD j 0) := by
  rw [List.getD_eq_getElem?_getD, List.getElem?_eq_getElem hj]
  exact h _ (List.getElem_mem hj)
theorem Tx_fit {f : Nat → Int32} {l : List Int32} (h : Tx f l) (h7 : T7 l) {j : Nat} (hj : j < l.length) : fits .byte (.int (f j)) = true := by
  rw [h j hj]
  exact fit7 (T7_at h7 hj)
/-- how far a builder's row grows -/
def gcap (cap n : Nat) : Nat := if n ≤ cap then cap else cap + max (n - cap) (cap + 2)
def gms (cap n : Nat) : Nat := if n ≤ cap then 0 else gcap cap n
theorem gcap_ge (cap n : Nat) : n ≤ gcap cap n := by
  unfold gcap
  split
  · assumption
  · omega
theorem gcap_cap (cap n : Nat) : cap ≤ gcap cap n := by
  unfold gcap
  split <;> omega
theorem gcap_lt {cap n b : Nat} (h1 : cap ≤ b) (h2 : n ≤ b) : gcap cap n ≤ 2 * b + 2 := by
  unfold gcap
  split <;> omega
theorem gms_le (cap n : Nat) : gms cap n ≤ gcap cap n := by
  unfold gms
  split <;> omega
/-- what has been made, held against the row -/
theorem gms_pay {cap n u : Nat} (h : u ≤ 2 * cap) : u + gms cap n ≤ 2 * gcap cap n := by
  unfold gms gcap
  split <;> omega
theorem shl0 (x : Int32) : x <<< ((0 : Int32) &&& 31) = x := by
  apply Int32.toBitVec_inj.mp
  show x.toBitVec <<< (((0 : Int32) &&& 31).toBitVec.smod 32).toNat = x.toBitVec
  rw [show (((0 : Int32) &&& 31).toBitVec.smod 32).toNat = 0 by decide]
  exact BitVec.shiftLeft_zero _
theorem shr0 (x : Int32) : x >>> ((0 : Int32) &&& 31) = x := by
  apply Int32.toBitVec_inj.mp
  show x.toBitVec.sshiftRight (((0 : Int32) &&& 31).toBitVec.smod 32).toNat = x.toBitVec
  rw [show (((0 : Int32) &&& 31).toBitVec.smod 32).toNat = 0 by decide]
  exact BitVec.sshiftRight_zero _
theorem le_sub {a b : Nat} (ha : a < 2 ^ 30) (hb : b < 2 ^ 30) : (nI a - nI b ≤ 0) ↔ a ≤ b := by
  by_cases h : b ≤ a
  · rw [pk_sub h, show (0 : Int32) = nI 0 from rfl, nI_leI (by omega) (by decide)]
    omega
  · constructor
    · intro _; omega
    · intro _
      have e : nI a - nI b = -(nI (b - a)) := by
        have h1 : nI b = nI a + nI (b - a) := by rw [nI_add]; congr 1; omega
        rw [h1]
        generalize nI a = x; generalize nI (b - a) = y
        apply Int32.toBitVec_inj.mp
        show x.toBitVec - (x.toBitVec + y.toBitVec) = - y.toBitVec
        rw [← BitVec.sub_sub, BitVec.sub_self, BitVec.zero_sub]
      rw [e]
      have h2 : ∀ c : Nat, c < 2 ^ 30 → -(nI c) ≤ 0 := by
        intro c hc
        rw [Int32.le_iff_toInt_le, Int32.toInt_neg]
        have h3 : (nI c).toInt = c := nI_toInt (by omega)
        rw [h3]
        show (-(c : Int)).bmod (2 ^ 32) ≤ 0
        rw [Int.bmod_def]
        split <;> omega
      exact h2 _ (by omega)
/-- all of a row are bytes -/
def Bf (f : Nat → Int32) (n : Nat) : Prop := ∀ j, j < n → fits .byte (.int (f j)) = true
theorem Bf_0 (n : Nat) : Bf (fun _ => 0) n := fun _ _ => rfl
theorem Bf_cpy {g f : Nat → Int32} {N dq sq n M : Nat} (hg : Bf g N) (hf : Bf f M) (h : sq + n ≤ M) : Bf (cpy g dq f sq n) N := by
  intro j hj
  rw [cpy_at]
  split
  · exact hf _ (by omega)
  · exact hg j hj
theorem Bf_upd {g : Nat → Int32} {N j : Nat} {x : Int32} (hg : Bf g N) (hx : fits .byte (.int x) = true) : Bf (upd g j x) N := by
  intro i hi
  rw [upd_at]
  split
  · exact hx
  · exact hg i hi
theorem Bf_le {g : Nat → Int32} {N M : Nat} (hg : Bf g N) (h : M ≤ N) : Bf g M := fun j hj => hg j (by omega)
theorem Tx_nil (f : Nat → Int32) : Tx f [] := fun j hj => absurd hj (Nat.not_lt_zero _)
theorem getD_appL {l r : List Int32} {j : Nat} (h : j < l.length) : (l ++ r).getD j 0 = l.getD j 0 := by
  rw [List.getD_eq_getElem?_getD, List.getD_eq_getElem?_getD, List.getElem?_append_left h]
theorem getD_appR {l r : List Int32} {j : Nat} (h : l.length ≤ j) : (l ++ r).getD j 0 = r.getD (j - l.length) 0 := by
  rw [List.getD_eq_getElem?_getD, List.getD_eq_getElem?_getD, List.getElem?_append_right h]
theorem Tx_app {f g : Nat → Int32} {l r : List Int32} (hl : Tx f l) (h1 : ∀ j, j < l.length → g j = f j) (h2 : ∀ j, j < r.length → g (l.length + j) = r.getD j 0) : Tx g (l ++ r) := by
  intro j hj
  rw [List.length_append] at hj
  by_cases h : j < l.length
  · rw [getD_appL h, h1 j h]; exact hl j h
  · rw [getD_appR (by omega), ← h2 (j - l.length) (by omega)]
    congr 1; omega
theorem T7_app {l r : List Int32} (h1 : T7 l) (h2 : T7 r) : T7 (l ++ r) := fun x hx => (List.mem_append.mp hx).elim (h1 x) (h2 x)
theorem T7_nil : T7 [] := fun _ h => by cases h
theorem T7_one {x : Int32} (h : l7 x) : T7 [x] := fun y hy => by rw [List.mem_singleton.mp hy]; exact h
theorem Bf_k {i : Nat} (h : i < 7) : Bf (ch2 i) (ln2 i) := by
  have : ∀ i : Nat, i < 7 → ∀ j : Nat, j < ln2 i → fits .byte (.int (ch2 i j)) = true := by decide +kernel
  exact this i h
theorem ln2_le {i : Nat} (h : i < 7) : ln2 i ≤ 4 := by
  have : ∀ i : Nat, i < 7 → ln2 i ≤ 4 := by decide +kernel
  exact this i h
theorem fit_row {cA : ClassId} {n : Nat} {f : Nat → Int32} (h : Bf f n) : ∀ (i : Nat) (v : Value), (vp_cell cA (n, .inl f)).slots[i]? = some v → fits .byte v = true := by
  intro i v hv
  rw [vp_cell_i] at hv
  by_cases hi : i < n
  · have : (arrV cA n (fun j => Value.int (f j))).slots[i]? = some (.int (f i)) := by
      unfold arrV
      simp [hi]
    rw [this] at hv
    cases hv
    exact h i hi
  · have : (arrV cA n (fun j => Value.int (f j))).slots[i]? = none := by
      unfold arrV
      simp [hi]
    rw [this] at hv
    cases hv

abbrev bAI (k : Nat → ClassId) (a : Nat) (n : Nat) (f : Nat → Int32) : va_W := [(a, .inl (k 0, n, .inl f))]
abbrev bAC (k : Nat → ClassId) (a : Nat) (n : Nat) (f : Nat → Int32) : va_W := [(a, .inl (k 1, n, .inl f))]
abbrev bAB (k : Nat → ClassId) (a : Nat) (n : Nat) (f : Nat → Int32) : va_W := [(a, .inl (k 8, n, .inl f))]
abbrev bAF (k : Nat → ClassId) (a : Nat) (n : Nat) (f : Nat → UInt32) : va_W := [(a, .inl (k 2, n, .inr (.inr (.inl f))))]
abbrev bAL (k : Nat → ClassId) (a : Nat) (n : Nat) (f : Nat → Int64) : va_W := [(a, .inl (k 3, n, .inr (.inl f)))]
abbrev bOJ4 (k : Nat → ClassId) (a : Nat) (v0 : Value) (v1 : Value) (v2 : Value) (v3 : Value) : va_W := [(a, .inr (1, [v0, v1, v2, v3]))]
abbrev bOJ0 (k : Nat → ClassId) (a : Nat) (v0 : Value) (v1 : Value) (v2 : Value) (v3 : Value) : va_W := [(a, .inr (0, [v0, v1, v2, v3]))]
abbrev bOJx40b00 (k : Nat → ClassId) (a : Nat) (v0 : Value) (v1 : Value) : va_W := [(a, .inr (3, [v0, v1]))]
abbrev bOX13 (k : Nat → ClassId) (a : Nat) (v0 : Value) : va_W := [(a, .inr (13, [v0]))]
abbrev bSO (k : Nat → ClassId) (a : Nat) (b : Nat) (n : Nat) : va_W := [(a, .inr (1, [.ref b, .int 0, .int 0, .int (nI n)]))]
abbrev bTO (k : Nat → ClassId) (a : Nat) (b : Nat) : va_W := [(a, .inr (0, [.ref b, .int 0, .int 0, .int 0]))]
abbrev bFO9 (k : Nat → ClassId) (a : Nat) (b : Nat) (x : Int32) : va_W := [(a, .inr (3, [.ref b, .int x]))]
abbrev bBO (k : Nat → ClassId) (a : Nat) (x : Int32) : va_W := [(a, .inr (13, [.int x]))]
