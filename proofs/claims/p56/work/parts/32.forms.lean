/-! The reading of a command text, the class's way: parts, forms, commands. -/
abbrev WQ (D : va_G) (k : Nat → ClassId) (wc' : va_W) (x : Option Nat) (A : Nat → Prop) : Array Value → State → Outcome → State → Prop := va_Qq (fun r (_ : Unit) => r = x) (WB D k A wc') A
section FROWS
variable {p : Program} {l : Launch} {e : Env} {R : Room} {s : State} {m : MethodId} {args : Array Value} {below : List Frame} {meth : Method} {c : Code} {H H0 : Heap} {locs : List Loc} {cells slots : Nat} {Q : State → Prop}
variable {cc : ByteArray} {pc : Nat} {ls : Array Slot} {rest : List Value} {D : va_G} {k : Nat → ClassId} {A : Nat → Prop} {ws : va_W}
theorem fo_st {a : Nat} (hexec : p.tables.exec = Jvm.exec) (hb : c.code = cc) (hK : va_K D vwCl (tyL k) s) (hP : va_P D vwCl ws H) (hD : va_D A ws) (hS : va_S A H0 H locs) (q0 t0 : Nat) {E : String} {cA : ClassId} {n v : Nat} {f : Nat → Option Nat} (ha : ws[q0]? = some (a, .inl (cA, n, .inr (.inr (.inr (.inr f)))))) (ht : (tyL k)[t0]? = some (cA, .object E)) (hr : ∃ cellV : Cell, H[v]? = some cellV ∧ cellV.vm.isStatics = false ∧ s.vm.findClass E = some cellV.cls) (j : Nat) (hj : j < n) (hn : n < 2 ^ 31) (wf : va_W) (hf : ws.set q0 (a, .inl (cA, n, .inr (.inr (.inr (.inr (va_up f j (some v))))))) = wf) (hdg : decode cc pc = .ok (.aastore, 1))
    (kk : ∀ (H1 : Heap) (locs1 : List Loc), va_P D vwCl wf H1 → va_D A wf → va_S A H0 H1 locs1 → W p l e R s m args below meth c H1 locs1 cells slots Q (F0 m (pc + 1) ls rest)) : W p l e R s m args below meth c H locs cells slots Q (F0 m pc ls (.ref v :: .int (nI j) :: .ref a :: rest)) := by
  refine vb_astq hexec hb hK hP hD hS q0 t0 ha ht hr (fun comp c0 h1 h2 => vb_asgS comp c0 h1 h2) (vp_in_nI hj hn) hdg ?_
  rw [nI_clamp (Nat.lt_trans hj hn), hf]
  exact kk
end FROWS
/-- the letters of a text are letters of seven bits -/
def tsOk (ts : Nat → Int32) (tl : Nat) : Prop := ∀ c, c < tl → ∃ q, q < 128 ∧ ts c = nI q
def ltC (ts : Nat → Int32) (tl sp i : Nat) : Bool := decide (sp < tl) && decide (0 ≤ ixS i (ts sp).toNatClampNeg)
theorem ltC_t {ts : Nat → Int32} {tl sp i q : Nat} (h : sp < tl) (hq : q < 128) (e : ts sp = nI q) (h2 : 0 ≤ ixS i q) : ltC ts tl sp i = true := by
  unfold ltC
  rw [e, clN (by omega), decide_eq_true h, decide_eq_true h2]
  rfl
theorem ltC_f0 {ts : Nat → Int32} {tl sp i : Nat} (h : ¬ sp < tl) : ltC ts tl sp i = false := by
  unfold ltC
  rw [decide_eq_false h]
  rfl
theorem ltC_f1 {ts : Nat → Int32} {tl sp i q : Nat} (hq : q < 128) (e : ts sp = nI q) (h2 : ¬ 0 ≤ ixS i q) : ltC ts tl sp i = false := by
  unfold ltC
  rw [e, clN (by omega), decide_eq_false h2, Bool.and_false]
/-- whether a part was taken; what follows; how many numbers are kept; the numbers -/
abbrev PT := Bool × Nat × Nat × (Nat → Nat → Int32)
def tpS (ts : Nat → Int32) (tl cm : Nat) (s : PT) (z : Int32) : PT :=
  if z = 35 then (isG ts tl s.2.1, (if isG ts tl s.2.1 = true then s.2.1 + dkC ts tl s.2.1 else s.2.1), (if isG ts tl s.2.1 = true then kpN s.2.2.1 else s.2.2.1), (if isG ts tl s.2.1 = true then kpV cm s.2.2.1 s.2.2.2 (nvC ts s.2.1 (dkC ts tl s.2.1)) else s.2.2.2))
  else if z = 48 then (isG ts tl s.2.1, (if isG ts tl s.2.1 = true then s.2.1 + 1 else s.2.1), (if isG ts tl s.2.1 = true then kpN s.2.2.1 else s.2.2.1), (if isG ts tl s.2.1 = true then kpV cm s.2.2.1 s.2.2.2 (ts s.2.1 - 48) else s.2.2.2))
  else if z = 75 then (ltC ts tl s.2.1 10, (if ltC ts tl s.2.1 10 = true then s.2.1 + 1 else s.2.1), (if ltC ts tl s.2.1 10 = true then kpN s.2.2.1 else s.2.2.1), (if ltC ts tl s.2.1 10 = true then kpV cm s.2.2.1 s.2.2.2 (ts s.2.1) else s.2.2.2))
  else if z = 82 then (ltC ts tl s.2.1 11, (if ltC ts tl s.2.1 11 = true then s.2.1 + 1 else s.2.1), (if ltC ts tl s.2.1 11 = true then kpN s.2.2.1 else s.2.2.1), (if ltC ts tl s.2.1 11 = true then kpV cm s.2.2.1 s.2.2.2 (ts s.2.1) else s.2.2.2))
  else (sgC ts tl s.2.1 z, (if sgC ts tl s.2.1 z = true then s.2.1 + 1 else s.2.1), s.2.2.1, s.2.2.2)
theorem tpS_35 {ts : Nat → Int32} {tl cm sp vc : Nat} {V : Nat → Nat → Int32} {z : Int32} (h : z = 35) : tpS ts tl cm (true, sp, vc, V) z = (isG ts tl sp, (if isG ts tl sp = true then sp + dkC ts tl sp else sp), (if isG ts tl sp = true then kpN vc else vc), (if isG ts tl sp = true then kpV cm vc V (nvC ts sp (dkC ts tl sp)) else V)) := by
  unfold tpS
  rw [if_pos h]
theorem tpS_48 {ts : Nat → Int32} {tl cm sp vc : Nat} {V : Nat → Nat → Int32} {z : Int32} (h0 : ¬ z = 35) (h : z = 48) : tpS ts tl cm (true, sp, vc, V) z = (isG ts tl sp, (if isG ts tl sp = true then sp + 1 else sp), (if isG ts tl sp = true then kpN vc else vc), (if isG ts tl sp = true then kpV cm vc V (ts sp - 48) else V)) := by
  unfold tpS
  rw [if_neg h0, if_pos h]
theorem tpS_75 {ts : Nat → Int32} {tl cm sp vc : Nat} {V : Nat → Nat → Int32} {z : Int32} (h0 : ¬ z = 35) (h1 : ¬ z = 48) (h : z = 75) : tpS ts tl cm (true, sp, vc, V) z = (ltC ts tl sp 10, (if ltC ts tl sp 10 = true then sp + 1 else sp), (if ltC ts tl sp 10 = true then kpN vc else vc), (if ltC ts tl sp 10 = true then kpV cm vc V (ts sp) else V)) := by
  unfold tpS
  rw [if_neg h0, if_neg h1, if_pos h]
theorem tpS_82 {ts : Nat → Int32} {tl cm sp vc : Nat} {V : Nat → Nat → Int32} {z : Int32} (h0 : ¬ z = 35) (h1 : ¬ z = 48) (h2 : ¬ z = 75) (h : z = 82) : tpS ts tl cm (true, sp, vc, V) z = (ltC ts tl sp 11, (if ltC ts tl sp 11 = true then sp + 1 else sp), (if ltC ts tl sp 11 = true then kpN vc else vc), (if ltC ts tl sp 11 = true then kpV cm vc V (ts sp) else V)) := by
  unfold tpS
  rw [if_neg h0, if_neg h1, if_neg h2, if_pos h]
theorem tpS_o {ts : Nat → Int32} {tl cm sp vc : Nat} {V : Nat → Nat → Int32} {z : Int32} (h0 : ¬ z = 35) (h1 : ¬ z = 48) (h2 : ¬ z = 75) (h3 : ¬ z = 82) : tpS ts tl cm (true, sp, vc, V) z = (sgC ts tl sp z, (if sgC ts tl sp z = true then sp + 1 else sp), vc, V) := by
  unfold tpS
  rw [if_neg h0, if_neg h1, if_neg h2, if_neg h3]
def tfU (ts : Nat → Int32) (tl cm i st : Nat) (V : Nat → Nat → Int32) (j : Nat) : PT := up (fun j s => if s.1 = true then tpS ts tl cm s (chS i j) else s) (true, st, 0, V) j
theorem tfU_s {ts : Nat → Int32} {tl cm i st : Nat} {V : Nat → Nat → Int32} {j : Nat} (h : (tfU ts tl cm i st V j).1 = true) : tfU ts tl cm i st V (j + 1) = tpS ts tl cm (tfU ts tl cm i st V j) (chS i j) := if_pos h
theorem tfU_f {ts : Nat → Int32} {tl cm i st : Nat} {V : Nat → Nat → Int32} {j : Nat} (h : (tfU ts tl cm i st V j).1 = false) : ∀ d, tfU ts tl cm i st V (j + d) = tfU ts tl cm i st V j
  | 0 => rfl
  | d + 1 => by
    have e := tfU_f h d
    show (if (tfU ts tl cm i st V (j + d)).1 = true then tpS ts tl cm (tfU ts tl cm i st V (j + d)) (chS i (j + d)) else tfU ts tl cm i st V (j + d)) = _
    rw [e, if_neg (by rw [h]; decide)]
theorem tfE_ex (ts : Nat → Int32) (tl cm i st : Nat) (V : Nat → Nat → Int32) : ∃ x : PT, tfU ts tl cm i st V (lnF i) = x := ⟨_, rfl⟩
noncomputable def tfE (ts : Nat → Int32) (tl cm i st : Nat) (V : Nat → Nat → Int32) : PT := Classical.choose (tfE_ex ts tl cm i st V)
theorem tfE_eq (ts : Nat → Int32) (tl cm i st : Nat) (V : Nat → Nat → Int32) : tfU ts tl cm i st V (lnF i) = tfE ts tl cm i st V := Classical.choose_spec (tfE_ex ts tl cm i st V)
theorem tfE_f {ts : Nat → Int32} {tl cm i st : Nat} {V : Nat → Nat → Int32} {j : Nat} (h : (tfU ts tl cm i st V j).1 = true) (h2 : (tpS ts tl cm (tfU ts tl cm i st V j) (chS i j)).1 = false) (hj : j < lnF i) : tfE ts tl cm i st V = tpS ts tl cm (tfU ts tl cm i st V j) (chS i j) := by
  rw [← tfU_s h] at h2 ⊢
  rw [← tfE_eq]
  have := tfU_f h2 (lnF i - (j + 1))
  rw [show j + 1 + (lnF i - (j + 1)) = lnF i by omega] at this
  exact this
theorem dkC_le {ts : Nat → Int32} {tl sp : Nat} (h : isG ts tl sp = true) : sp + dkC ts tl sp ≤ tl := by
  have h0 := isG_in h
  by_cases q : dkC ts tl sp = 0
  · omega
  · have := fsN_lt (p := fun i => !isG ts tl (sp + i)) (n := 4) (dkC ts tl sp - 1) (by show _ < dkC ts tl sp; omega)
    have h2 : isG ts tl (sp + (dkC ts tl sp - 1)) = true := by
      cases r : isG ts tl (sp + (dkC ts tl sp - 1)) with
      | true => rfl
      | false => simp [r] at this
    have := isG_in h2
    omega
theorem ltC_in {ts : Nat → Int32} {tl sp i : Nat} (h : ltC ts tl sp i = true) : sp < tl := by
  unfold ltC at h
  rw [Bool.and_eq_true] at h
  exact of_decide_eq_true h.1
theorem sgC_in {ts : Nat → Int32} {tl sp : Nat} {z : Int32} (h : sgC ts tl sp z = true) : sp < tl := by
  unfold sgC at h
  rw [Bool.and_eq_true] at h
  exact of_decide_eq_true h.1
theorem tpS_le {ts : Nat → Int32} {tl cm : Nat} {s : PT} (h : s.2.1 ≤ tl) (z : Int32) : (tpS ts tl cm s z).2.1 ≤ tl := by
  unfold tpS
  split
  · dsimp only
    split
    · rename_i q; exact dkC_le q
    · exact h
  · split
    · dsimp only
      split
      · rename_i q; exact isG_in q
      · exact h
    · split
      · dsimp only
        split
        · rename_i q; exact ltC_in q
        · exact h
      · split
        · dsimp only
          split
          · rename_i q; exact ltC_in q
          · exact h
        · dsimp only
          split
          · rename_i q; exact sgC_in q
          · exact h
theorem tfU_le {ts : Nat → Int32} {tl cm i st : Nat} {V : Nat → Nat → Int32} (h : st ≤ tl) (j : Nat) : (tfU ts tl cm i st V j).2.1 ≤ tl := by
  induction j with
  | zero => exact h
  | succ j ih =>
    show (if (tfU ts tl cm i st V j).1 = true then tpS ts tl cm (tfU ts tl cm i st V j) (chS i j) else tfU ts tl cm i st V j).2.1 ≤ tl
    split
    · exact tpS_le ih _
    · exact ih
theorem tfE_le {ts : Nat → Int32} {tl cm i st : Nat} {V : Nat → Nat → Int32} (h : st ≤ tl) : (tfE ts tl cm i st V).2.1 ≤ tl := by rw [← tfE_eq]; exact tfU_le h _
theorem kpN_le {vc : Nat} (h : vc ≤ 3) : kpN vc ≤ 3 := by
  unfold kpN
  split <;> omega
theorem tpS_vc {ts : Nat → Int32} {tl cm : Nat} {s : PT} (h : s.2.2.1 ≤ 3) (z : Int32) : (tpS ts tl cm s z).2.2.1 ≤ 3 := by
  unfold tpS
  split
  · dsimp only
    split
    · exact kpN_le h
    · exact h
  · split
    · dsimp only
      split
      · exact kpN_le h
      · exact h
    · split
      · dsimp only
        split
        · exact kpN_le h
        · exact h
      · split
        · dsimp only
          split
          · exact kpN_le h
          · exact h
        · exact h
theorem tfU_vc (ts : Nat → Int32) (tl cm i st : Nat) (V : Nat → Nat → Int32) (j : Nat) : (tfU ts tl cm i st V j).2.2.1 ≤ 3 := by
  induction j with
  | zero => exact Nat.zero_le 3
  | succ j ih =>
    show (if (tfU ts tl cm i st V j).1 = true then tpS ts tl cm (tfU ts tl cm i st V j) (chS i j) else tfU ts tl cm i st V j).2.2.1 ≤ 3
    split
    · exact tpS_vc ih _
    · exact ih
theorem tfE_vc (ts : Nat → Int32) (tl cm i st : Nat) (V : Nat → Nat → Int32) : (tfE ts tl cm i st V).2.2.1 ≤ 3 := by rw [← tfE_eq]; exact tfU_vc ts tl cm i st V _
/-- the forms tried before the form i: how far they came, the numbers, how many are kept -/
noncomputable def rfU (ts : Nat → Int32) (tl cm st : Nat) (V : Nat → Nat → Int32) (vc sp i : Nat) : Nat × (Nat → Nat → Int32) × Nat × Nat := up (fun i s => (max s.1 (tfE ts tl cm i st s.2.1).2.1, (tfE ts tl cm i st s.2.1).2.2.2, (tfE ts tl cm i st s.2.1).2.2.1, (tfE ts tl cm i st s.2.1).2.1)) (st, V, vc, sp) i
theorem rfU_s (ts : Nat → Int32) (tl cm st : Nat) (V : Nat → Nat → Int32) (vc sp i : Nat) : rfU ts tl cm st V vc sp (i + 1) = (max (rfU ts tl cm st V vc sp i).1 (tfE ts tl cm i st (rfU ts tl cm st V vc sp i).2.1).2.1, (tfE ts tl cm i st (rfU ts tl cm st V vc sp i).2.1).2.2.2, (tfE ts tl cm i st (rfU ts tl cm st V vc sp i).2.1).2.2.1, (tfE ts tl cm i st (rfU ts tl cm st V vc sp i).2.1).2.1) := rfl
noncomputable def rfP (ts : Nat → Int32) (tl cm st : Nat) (V : Nat → Nat → Int32) (vc sp i : Nat) : Bool := (tfE ts tl cm i st (rfU ts tl cm st V vc sp i).2.1).1
theorem rfN_ex (ts : Nat → Int32) (tl cm st : Nat) (V : Nat → Nat → Int32) (vc sp : Nat) : ∃ x : Nat, fsN (rfP ts tl cm st V vc sp) 10 = x := ⟨_, rfl⟩
noncomputable def rfN (ts : Nat → Int32) (tl cm st : Nat) (V : Nat → Nat → Int32) (vc sp : Nat) : Nat := Classical.choose (rfN_ex ts tl cm st V vc sp)
theorem rfN_eq (ts : Nat → Int32) (tl cm st : Nat) (V : Nat → Nat → Int32) (vc sp : Nat) : rfN ts tl cm st V vc sp = fsN (rfP ts tl cm st V vc sp) 10 := (Classical.choose_spec (rfN_ex ts tl cm st V vc sp)).symm
theorem rfN_at {ts : Nat → Int32} {tl cm st : Nat} {V : Nat → Nat → Int32} {vc sp i : Nat} (ha : ∀ c, c < i → rfP ts tl cm st V vc sp c = false) (hi : rfP ts tl cm st V vc sp i = true) (h : i < 10) : rfN ts tl cm st V vc sp = i := (rfN_eq ts tl cm st V vc sp).trans (fsN_some ha hi h)
theorem rfN_no {ts : Nat → Int32} {tl cm st : Nat} {V : Nat → Nat → Int32} {vc sp : Nat} (ha : ∀ c, c < 10 → rfP ts tl cm st V vc sp c = false) : rfN ts tl cm st V vc sp = 10 := (rfN_eq ts tl cm st V vc sp).trans (fsN_none ha)
theorem rfN_le (ts : Nat → Int32) (tl cm st : Nat) (V : Nat → Nat → Int32) (vc sp : Nat) : rfN ts tl cm st V vc sp ≤ 10 := by rw [rfN_eq]; exact fsN_le _ _
/-- what stands when a form was taken -/
noncomputable def rfE (ts : Nat → Int32) (tl cm st : Nat) (V : Nat → Nat → Int32) (vc sp : Nat) : PT := tfE ts tl cm (rfN ts tl cm st V vc sp) st (rfU ts tl cm st V vc sp (rfN ts tl cm st V vc sp)).2.1
theorem rfU_le {ts : Nat → Int32} {tl cm st : Nat} {V : Nat → Nat → Int32} {vc sp : Nat} (h : st ≤ tl) (htl : tl ≤ 60) (hs : sp ≤ 60) (i : Nat) : (rfU ts tl cm st V vc sp i).1 ≤ tl ∧ (rfU ts tl cm st V vc sp i).2.2.2 ≤ 60 := by
  induction i with
  | zero => exact ⟨h, hs⟩
  | succ i ih =>
    rw [rfU_s]
    have := tfE_le (ts := ts) (cm := cm) (i := i) (V := (rfU ts tl cm st V vc sp i).2.1) h
    exact ⟨Nat.max_le.mpr ⟨ih.1, this⟩, Nat.le_trans this htl⟩
theorem rfE_le {ts : Nat → Int32} {tl cm st : Nat} {V : Nat → Nat → Int32} {vc sp : Nat} (h : st ≤ tl) : (rfE ts tl cm st V vc sp).2.1 ≤ tl := tfE_le h
theorem rfU_vc {ts : Nat → Int32} {tl cm st : Nat} {V : Nat → Nat → Int32} {vc sp : Nat} (h : vc ≤ 3) (i : Nat) : (rfU ts tl cm st V vc sp i).2.2.1 ≤ 3 := by
  cases i with
  | zero => exact h
  | succ i => rw [rfU_s]; exact tfE_vc _ _ _ _ _ _
/-- behind the first commands: where the next begins, the numbers, how many are kept, the place, the forms -/
abbrev QS := Nat × (Nat → Nat → Int32) × Nat × Nat × (Nat → Option Nat)
noncomputable def psT (ts : Nat → Int32) (tl : Nat) (kf : Nat → Nat) (i : Nat) (s : QS) : QS := ((rfE ts tl i s.1 s.2.1 s.2.2.1 s.2.2.2.1).2.1 + 1, (rfE ts tl i s.1 s.2.1 s.2.2.1 s.2.2.2.1).2.2.2, (rfE ts tl i s.1 s.2.1 s.2.2.1 s.2.2.2.1).2.2.1, (rfE ts tl i s.1 s.2.1 s.2.2.1 s.2.2.2.1).2.1, va_up s.2.2.2.2 i (some (kf (rfN ts tl i s.1 s.2.1 s.2.2.1 s.2.2.2.1))))
noncomputable def psU (ts : Nat → Int32) (tl : Nat) (kf : Nat → Nat) (s : QS) (i : Nat) : QS := up (fun i s => psT ts tl kf i s) s i
theorem psU_s (ts : Nat → Int32) (tl : Nat) (kf : Nat → Nat) (s : QS) (i : Nat) : psU ts tl kf s (i + 1) = psT ts tl kf i (psU ts tl kf s i) := rfl
theorem psU_vc {ts : Nat → Int32} {tl : Nat} {kf : Nat → Nat} {s : QS} (h : s.2.2.1 ≤ 3) (i : Nat) : (psU ts tl kf s i).2.2.1 ≤ 3 := by
  cases i with
  | zero => exact h
  | succ i => rw [psU_s]; exact tfE_vc _ _ _ _ _ _
/-- whether another command follows the command i -/
noncomputable def qsG (ts : Nat → Int32) (tl i : Nat) (s : QS) : Bool := decide (rfN ts tl i s.1 s.2.1 s.2.2.1 s.2.2.2.1 < 10) && (decide ((rfE ts tl i s.1 s.2.1 s.2.2.1 s.2.2.2.1).2.1 < tl) && decide (ts (rfE ts tl i s.1 s.2.1 s.2.2.1 s.2.2.2.1).2.1 = 59))
theorem qsG_t {ts : Nat → Int32} {tl i : Nat} {s : QS} (h1 : rfN ts tl i s.1 s.2.1 s.2.2.1 s.2.2.2.1 < 10) (h2 : (rfE ts tl i s.1 s.2.1 s.2.2.1 s.2.2.2.1).2.1 < tl) (h3 : ts (rfE ts tl i s.1 s.2.1 s.2.2.1 s.2.2.2.1).2.1 = 59) : qsG ts tl i s = true := by
  unfold qsG
  rw [decide_eq_true h1, decide_eq_true h2, decide_eq_true h3]
  rfl
theorem qsG_of {ts : Nat → Int32} {tl i : Nat} {s : QS} (h : qsG ts tl i s = true) : rfN ts tl i s.1 s.2.1 s.2.2.1 s.2.2.2.1 < 10 ∧ (rfE ts tl i s.1 s.2.1 s.2.2.1 s.2.2.2.1).2.1 < tl ∧ ts (rfE ts tl i s.1 s.2.1 s.2.2.1 s.2.2.2.1).2.1 = 59 := by
  unfold qsG at h
  rw [Bool.and_eq_true, Bool.and_eq_true] at h
  exact ⟨of_decide_eq_true h.1, of_decide_eq_true h.2.1, of_decide_eq_true h.2.2⟩
theorem qsG_f1 {ts : Nat → Int32} {tl i : Nat} {s : QS} (h : ¬ rfN ts tl i s.1 s.2.1 s.2.2.1 s.2.2.2.1 < 10) : qsG ts tl i s = false := by
  unfold qsG
  rw [decide_eq_false h]
  rfl
theorem qsG_f2 {ts : Nat → Int32} {tl i : Nat} {s : QS} (h : ¬ (rfE ts tl i s.1 s.2.1 s.2.2.1 s.2.2.2.1).2.1 < tl) : qsG ts tl i s = false := by
  unfold qsG
  rw [decide_eq_false h]
  simp
theorem qsG_f3 {ts : Nat → Int32} {tl i : Nat} {s : QS} (h : ¬ ts (rfE ts tl i s.1 s.2.1 s.2.2.1 s.2.2.2.1).2.1 = 59) : qsG ts tl i s = false := by
  unfold qsG
  rw [decide_eq_false h]
  simp
theorem psN_ex (ts : Nat → Int32) (tl : Nat) (kf : Nat → Nat) (s : QS) : ∃ x : Nat, fsN (fun i => !qsG ts tl i (psU ts tl kf s i)) 10 = x := ⟨_, rfl⟩
noncomputable def psN (ts : Nat → Int32) (tl : Nat) (kf : Nat → Nat) (s : QS) : Nat := Classical.choose (psN_ex ts tl kf s)
theorem psN_eq (ts : Nat → Int32) (tl : Nat) (kf : Nat → Nat) (s : QS) : psN ts tl kf s = fsN (fun i => !qsG ts tl i (psU ts tl kf s i)) 10 := (Classical.choose_spec (psN_ex ts tl kf s)).symm
theorem psN_at {ts : Nat → Int32} {tl : Nat} {kf : Nat → Nat} {s : QS} {i : Nat} (ha : ∀ c, c < i → qsG ts tl c (psU ts tl kf s c) = true) (hi : qsG ts tl i (psU ts tl kf s i) = false) (h : i < 10) : psN ts tl kf s = i := (psN_eq ts tl kf s).trans (fsN_some (fun c hc => by rw [ha c hc]; rfl) (by rw [hi]; rfl) h)
theorem psN_no {ts : Nat → Int32} {tl : Nat} {kf : Nat → Nat} {s : QS} (ha : ∀ c, c < 10 → qsG ts tl c (psU ts tl kf s c) = true) : psN ts tl kf s = 10 := (psN_eq ts tl kf s).trans (fsN_none (fun c hc => by rw [ha c hc]; rfl))
theorem psU_le {ts : Nat → Int32} {tl : Nat} {kf : Nat → Nat} {s : QS} (htl : tl ≤ 60) (h : s.1 ≤ tl) (h4 : s.2.2.2.1 ≤ 60) (i : Nat) (ha : ∀ c, c < i → qsG ts tl c (psU ts tl kf s c) = true) : (psU ts tl kf s i).1 ≤ tl ∧ (psU ts tl kf s i).2.2.2.1 ≤ 60 := by
  induction i with
  | zero => exact ⟨h, h4⟩
  | succ i ih =>
    have := (qsG_of (ha i (Nat.lt_succ_self i))).2.1
    rw [psU_s]
    exact ⟨this, Nat.le_trans (Nat.le_of_lt this) htl⟩
/-- the end of the reading at the command i: the answer, the commands, the numbers, how many are kept, the place, the forms -/
abbrev PE := Int32 × Nat × (Nat → Nat → Int32) × Nat × Nat × (Nat → Option Nat)
noncomputable def psE (ts : Nat → Int32) (tl : Nat) (kf : Nat → Nat) (i : Nat) (s : QS) : PE :=
  if i = 10 then (nI s.1, 9, s.2.1, s.2.2.1, s.2.2.2.1, s.2.2.2.2)
  else if rfN ts tl i s.1 s.2.1 s.2.2.1 s.2.2.2.1 < 10 then
    (if (rfE ts tl i s.1 s.2.1 s.2.2.1 s.2.2.2.1).2.1 < tl then
      (nI (rfE ts tl i s.1 s.2.1 s.2.2.1 s.2.2.2.1).2.1, i, (psT ts tl kf i s).2.1, (psT ts tl kf i s).2.2.1, (psT ts tl kf i s).2.2.2.1, (psT ts tl kf i s).2.2.2.2)
    else (-1, i + 1, (psT ts tl kf i s).2.1, (psT ts tl kf i s).2.2.1, (psT ts tl kf i s).2.2.2.1, (psT ts tl kf i s).2.2.2.2))
  else (nI (rfU ts tl i s.1 s.2.1 s.2.2.1 s.2.2.2.1 10).1, i, (rfU ts tl i s.1 s.2.1 s.2.2.1 s.2.2.2.1 10).2.1, (rfU ts tl i s.1 s.2.1 s.2.2.1 s.2.2.2.1 10).2.2.1, (rfU ts tl i s.1 s.2.1 s.2.2.1 s.2.2.2.1 10).1, s.2.2.2.2)
noncomputable def psR (ts : Nat → Int32) (tl : Nat) (kf : Nat → Nat) (s : QS) : PE := psE ts tl kf (psN ts tl kf s) (psU ts tl kf s (psN ts tl kf s))
theorem psR_at {ts : Nat → Int32} {tl : Nat} {kf : Nat → Nat} {s : QS} {i : Nat} (h : psN ts tl kf s = i) : psR ts tl kf s = psE ts tl kf i (psU ts tl kf s i) := by
  unfold psR
  rw [h]
def pcm (cm i : Nat) : Nat := if i = 0 then cm else i - 1

abbrev bFO (k : Nat → ClassId) (ad : Nat) (fs : Nat → Option Nat) : va_W := [(ad, .inl (k 7, 10, .inr (.inr (.inr (.inr fs)))))]
set_option maxHeartbeats 4000000 in
set_option maxRecDepth 100000 in
theorem m_X6_takesLetter (l9 : Launch) (D : va_G) (k : Nat → ClassId) (ks kv kf : Nat → Nat) (ka kw : Nat) (sz : Nat) (tx sg tl fo va cm vc sp : Nat) (ts : Nat → Int32) (gi : Nat → Nat) (V : Nat → Nat → Int32) (i : Nat) (htl : tl ≤ 60) (hsp : sp ≤ 60) (hts9 : tsOk ts tl) (hcm : cm < 10) (hvc : vc ≤ 3) (hi : i < 12) : Met l9 yX6_takesLetter wsX6_takesLetter ({ frames := 4, cells := 0, slots := 0, locals := 91 }) (ZPc ks kv kf ka kw D k [.ref tx, .ref (ks i)] (bCT k tx sg tl fo va cm vc sp ++ bC60 k sg ts ++ bGI k va gi ++ bG3 k gi V) sz) (WI D k (bCT k tx sg tl fo va cm (if ltC ts tl sp i = true then kpN vc else vc) (if ltC ts tl sp i = true then sp + 1 else sp) ++ bC60 k sg ts ++ bGI k va gi ++ bG3 k gi (if ltC ts tl sp i = true then kpV cm vc V (ts sp) else V)) (bI (ltC ts tl sp i)) (va_A (bCT k tx sg tl fo va cm vc sp ++ bC60 k sg ts ++ bGI k va gi ++ bG3 k gi V) sz)) 0 0 (va_A (bCT k tx sg tl fo va cm vc sp ++ bC60 k sg ts ++ bGI k va gi ++ bG3 k gi V) sz) := by
  refine zMet (y := yX6_takesLetter) (cc := cX6_takesLetter) (maxL := 2) (ret := (some .boolean)) (Qc := fun A => WI D k (bCT k tx sg tl fo va cm (if ltC ts tl sp i = true then kpN vc else vc) (if ltC ts tl sp i = true then sp + 1 else sp) ++ bC60 k sg ts ++ bGI k va gi ++ bG3 k gi (if ltC ts tl sp i = true then kpV cm vc V (ts sp) else V)) (bI (ltC ts tl sp i)) A) [.ref tx, .ref (ks i)] (by decide) rfl (Nat.le_of_ble_eq_true rfl) ?_
  intro p9 e9 s9 m9 bl9 me9 c9 ls A H hF hr hlocks hP hK hN hKC hD hA hS hl
  have hl : lv_has ls 2 [(0, .ref tx), (1, .ref (ks i))] := hl
  obtain ⟨hx, hb, hml, hown, hts⟩ := id hF
  have k_fieldLink_36 : (Cond.fieldLink RX6 36 "OpinionReactor$CommandText" "stop" "I").before _ s9 = true := hts (.fieldLink RX6 36 "OpinionReactor$CommandText" "stop" "I") (by decide +kernel)
  have kc_RX6 : ∀ w ∈ u_ws RX6 TX6 7, w ∈ wsX6_takesLetter := by decide +kernel
  have k_fieldLink_15 : (Cond.fieldLink RX6 15 "OpinionReactor$CommandText" "length" "I").before _ s9 = true := hts (.fieldLink RX6 15 "OpinionReactor$CommandText" "length" "I") (by decide +kernel)
  have k_fieldLink_9 : (Cond.fieldLink RX6 9 "OpinionReactor$CommandText" "signs" "[C").before _ s9 = true := hts (.fieldLink RX6 9 "OpinionReactor$CommandText" "signs" "[C") (by decide +kernel)
  refine lv_aload_n hx hb dX6_takesLetter_0 rfl (lv_at hl 0 rfl) ?_
  refine va_get (D := D) (ci := 8) (v := .int (nI sp)) (C := RX6) (T := TX6) (N := 7) hx hb hts kc_RX6 hown hK hP 0 rfl rfl 6 (by decide) k_fieldLink_36 (fun _ h9 => h9) rfl dX6_takesLetter_1 ?_
  refine lv_aload_n hx hb dX6_takesLetter_4 rfl (lv_at hl 0 rfl) ?_
  refine va_get (D := D) (ci := 8) (v := .int (nI tl)) (C := RX6) (T := TX6) (N := 7) hx hb hts kc_RX6 hown hK hP 0 rfl rfl 1 (by decide) k_fieldLink_15 (fun _ h9 => h9) rfl dX6_takesLetter_5 ?_
  refine lv_icmp_ge (tgt := 27) hx hb dX6_takesLetter_8 (by decide) (fun c_1 => ?_) (fun c_1 => ?_)
  · skip
    have c_1 : tl ≤ sp := (nI_leI (a := tl) (b := sp) (by omega) (by omega)).mp c_1
    refine lv_iconst (v := 0) hx hb dX6_takesLetter_27 (by decide) ?_
    have e_2 : (vc : Nat) = if ltC ts tl sp i = true then kpN vc else vc := by first | (with_reducible rfl) | (first | (rw [ltC_t (by omega) hq8 eq9 (by assumption)]; rfl) | (rw [ltC_f0 (by omega)]; rfl) | (rw [ltC_f1 hq8 eq9 (by assumption)]; rfl))
    have hP := Eq.mp (congrArg (fun z9 => va_P D vwCl (bCT k tx sg tl fo va cm z9 sp ++ bC60 k sg ts ++ bGI k va gi ++ bG3 k gi V) H) e_2) hP
    have hD := Eq.mp (congrArg (fun z9 => va_D A (bCT k tx sg tl fo va cm z9 sp ++ bC60 k sg ts ++ bGI k va gi ++ bG3 k gi V)) e_2) hD
    have e_3 : (sp : Nat) = if ltC ts tl sp i = true then sp + 1 else sp := by first | (with_reducible rfl) | (first | (rw [ltC_t (by omega) hq8 eq9 (by assumption)]; rfl) | (rw [ltC_f0 (by omega)]; rfl) | (rw [ltC_f1 hq8 eq9 (by assumption)]; rfl))
    have hP := Eq.mp (congrArg (fun z9 => va_P D vwCl (bCT k tx sg tl fo va cm (if ltC ts tl sp i = true then kpN vc else vc) z9 ++ bC60 k sg ts ++ bGI k va gi ++ bG3 k gi V) H) e_3) hP
    have hD := Eq.mp (congrArg (fun z9 => va_D A (bCT k tx sg tl fo va cm (if ltC ts tl sp i = true then kpN vc else vc) z9 ++ bC60 k sg ts ++ bGI k va gi ++ bG3 k gi V)) e_3) hD
    have e_4 : (V : Nat → Nat → Int32) = if ltC ts tl sp i = true then kpV cm vc V (ts sp) else V := by first | (with_reducible rfl) | (first | (rw [ltC_t (by omega) hq8 eq9 (by assumption)]; rfl) | (rw [ltC_f0 (by omega)]; rfl) | (rw [ltC_f1 hq8 eq9 (by assumption)]; rfl))
    have hP := Eq.mp (congrArg (fun z9 => va_P D vwCl (bCT k tx sg tl fo va cm (if ltC ts tl sp i = true then kpN vc else vc) (if ltC ts tl sp i = true then sp + 1 else sp) ++ bC60 k sg ts ++ bGI k va gi ++ bG3 k gi z9) H) e_4) hP
    have hD := Eq.mp (congrArg (fun z9 => va_D A (bCT k tx sg tl fo va cm (if ltC ts tl sp i = true then kpN vc else vc) (if ltC ts tl sp i = true then sp + 1 else sp) ++ bC60 k sg ts ++ bGI k va gi ++ bG3 k gi z9)) e_4) hD
    exact W.zret (v := 0) hx hb hr (rfl) (fun t9 ht hW => ⟨⟨_, (), rfl, (by first | (rw [ltC_t (by omega) hq8 eq9 (by assumption)]; rfl) | (rw [ltC_f0 (by omega)]; rfl) | (rw [ltC_f1 hq8 eq9 (by assumption)]; rfl)), ⟨by rw [ht]; exact hP, va_K.moved hW.alike hK, hD⟩⟩, hS.F ht⟩) hS.2.2 dX6_takesLetter_28 hlocks
  · skip
    have c_1 : ¬ tl ≤ sp := fun h => c_1 ((nI_leI (a := tl) (b := sp) (by omega) (by omega)).mpr h)
    refine lv_aload_n hx hb dX6_takesLetter_11 rfl (lv_at hl 1 rfl) ?_
    refine lv_aload_n hx hb dX6_takesLetter_12 rfl (lv_at hl 0 rfl) ?_
    refine va_get (D := D) (ci := 8) (v := .ref sg) (C := RX6) (T := TX6) (N := 7) hx hb hts kc_RX6 hown hK hP 0 rfl rfl 0 (by decide) k_fieldLink_9 (fun _ h9 => h9) rfl dX6_takesLetter_13 ?_
    refine lv_aload_n hx hb dX6_takesLetter_16 rfl (lv_at hl 0 rfl) ?_
    refine va_get (D := D) (ci := 8) (v := .int (nI sp)) (C := RX6) (T := TX6) (N := 7) hx hb hts kc_RX6 hown hK hP 0 rfl rfl 6 (by decide) k_fieldLink_36 (fun _ h9 => h9) rfl dX6_takesLetter_17 ?_
    refine ca_ld hx hb hK hP 1 rfl sp (by omega) (by decide) dX6_takesLetter_20 ?_
    obtain ⟨q, hq8, eq9⟩ := hts9 sp (by omega)
    refine lv_tope (show Value.int (ts sp) = Value.int (nI q) from congrArg Value.int (by exact eq9)) ?_
    have hq9 := mp_of (ws := bCT k tx sg tl fo va cm vc sp ++ bC60 k sg ts ++ bGI k va gi ++ bG3 k gi V) (wc := []) (is := []) rfl
    have hFc := va_free (wc := []) hD hS hA [] hq9
    refine va_calli (va_runV (As := [.int (nI q)]) (rest := []) hF (m_J0_indexOf_0f7a4 l9 D k ks kv kf ka kw H.size i q hi hq8) (cwV 1 hts gX6_takesLetter_J0_indexOf_0f7a4 rfl rfl rfl (by decide +kernel) ⟨Nat.le_of_ble_eq_true rfl, Nat.le_of_ble_eq_true rfl⟩) (zPreR (zRecS hKC (by omega) hS) hK hN hKC hS hFc hP hD [] (fm_of hq9) (by decide) hq9) rfl rfl hl.1 rfl (lv_room (Nat.le_of_ble_eq_true rfl)) dX6_takesLetter_21 ⟨Nat.zero_le _, Nat.zero_le _⟩) hS (fun q _ h => hFc q h) hFc (fun r u9 t9 H1 locs ht hvm hw hB hz1 hk1 hS => ?_)
    obtain ⟨hP, hD⟩ := wjoin9 (wr := bCT k tx sg tl fo va cm vc sp ++ bC60 k sg ts ++ bGI k va gi ++ bG3 k gi V) (wf := bCT k tx sg tl fo va cm vc sp ++ bC60 k sg ts ++ bGI k va gi ++ bG3 k gi V) hP hD [] [0, 1, 2, 3, 4, 5, 6, 7, 8, 9, 10, 11, 12] [0, 1, 2, 3, 4, 5, 6, 7, 8, 9, 10, 11, 12] hq9 rfl (by decide) (by decide) hk1 hFc hB ht rfl (by decide)
    subst hw
    clear hB hk1 hz1 hvm hFc hq9
    clear ht
    clear t9
    generalize H1 = H at hP hS ⊢
    refine lv_if_ge (tgt := 29) hx hb dX6_takesLetter_24 (by decide) (fun c_5 => ?_) (fun c_5 => ?_)
    · skip
      refine lv_aload_n hx hb dX6_takesLetter_29 rfl (lv_at hl 0 rfl) ?_
      refine lv_aload_n hx hb dX6_takesLetter_30 rfl (lv_at hl 0 rfl) ?_
      refine va_get (D := D) (ci := 8) (v := .ref sg) (C := RX6) (T := TX6) (N := 7) hx hb hts kc_RX6 hown hK hP 0 rfl rfl 0 (by decide) k_fieldLink_9 (fun _ h9 => h9) rfl dX6_takesLetter_31 ?_
      refine lv_aload_n hx hb dX6_takesLetter_34 rfl (lv_at hl 0 rfl) ?_
      refine va_get (D := D) (ci := 8) (v := .int (nI sp)) (C := RX6) (T := TX6) (N := 7) hx hb hts kc_RX6 hown hK hP 0 rfl rfl 6 (by decide) k_fieldLink_36 (fun _ h9 => h9) rfl dX6_takesLetter_35 ?_
      refine ca_ld hx hb hK hP 1 rfl sp (by omega) (by decide) dX6_takesLetter_38 ?_
      have hq9 := mp_of (ws := bCT k tx sg tl fo va cm vc sp ++ bC60 k sg ts ++ bGI k va gi ++ bG3 k gi V) (wc := bCT k tx sg tl fo va cm vc sp ++ bGI k va gi ++ bG3 k gi V) (is := [0, 2, 3, 4, 5, 6, 7, 8, 9, 10, 11, 12]) rfl
      have hFc := va_free (wc := bCT k tx sg tl fo va cm vc sp ++ bGI k va gi ++ bG3 k gi V) hD hS hA [0, 2, 3, 4, 5, 6, 7, 8, 9, 10, 11, 12] hq9
      refine va_callv (va_runV (As := [.int (ts sp)]) (rest := []) hF (m_X6_keep l9 D k H.size tx sg tl fo va cm vc sp gi V (ts sp) hcm hvc) (cwV 1 hts gX6_takesLetter_X6_keep rfl rfl rfl (by decide +kernel) ⟨Nat.le_of_ble_eq_true rfl, Nat.le_of_ble_eq_true rfl⟩) (wPreV hK hN hP hD [0, 2, 3, 4, 5, 6, 7, 8, 9, 10, 11, 12] (fm_of hq9) (by decide) hq9 0 8 rfl rfl) rfl rfl hl.1 rfl (lv_room (Nat.le_of_ble_eq_true rfl)) dX6_takesLetter_39 ⟨Nat.zero_le _, Nat.zero_le _⟩) hS (fun q _ h => hFc q h) hFc (fun u9 t9 H1 locs ht hvm hw hB hz1 hk1 hS => ?_)
      obtain ⟨hP, hD⟩ := wjoin9 (wr := bC60 k sg ts) (wf := bCT k tx sg tl fo va cm (kpN vc) sp ++ bC60 k sg ts ++ bGI k va gi ++ bG3 k gi (kpV cm vc V (ts sp))) hP hD [0, 2, 3, 4, 5, 6, 7, 8, 9, 10, 11, 12] [1] [1, 0, 2, 3, 4, 5, 6, 7, 8, 9, 10, 11, 12] hq9 rfl (by decide) (by decide) hk1 hFc hB ht rfl (by decide)
      clear hB hk1 hz1 hvm hFc hq9
      clear ht
      clear t9
      generalize H1 = H at hP hS ⊢
      refine lv_aload_n hx hb dX6_takesLetter_42 rfl (lv_at hl 0 rfl) ?_
      refine lv_dup hx hb dX6_takesLetter_43 rfl ?_
      refine va_get (D := D) (ci := 8) (v := .int (nI sp)) (C := RX6) (T := TX6) (N := 7) hx hb hts kc_RX6 hown hK hP 0 rfl rfl 6 (by decide) k_fieldLink_36 (fun _ h9 => h9) rfl dX6_takesLetter_44 ?_
      refine lv_iconst (v := 1) hx hb dX6_takesLetter_47 (by decide) ?_
      refine ni_add hx hb sp 1 dX6_takesLetter_48 ?_
      refine va_put (D := D) (ci := 8) (v := .int (nI (sp + 1))) (ty := .int) (C := RX6) (T := TX6) (N := 7) hx hb hts kc_RX6 tyX6 tyX6_ok nmX6 hown hK hP hD hS 0 rfl rfl 6 (by decide) k_fieldLink_36 (fun _ h9 => h9) rfl (by decide +kernel) rfl rfl (Nat.le_of_ble_eq_true rfl) dX6_takesLetter_49 (fun H locs hP hD hS => ?_)
      have hP : va_P D vwCl (bCT k tx sg tl fo va cm (kpN vc) (sp + 1) ++ bC60 k sg ts ++ bGI k va gi ++ bG3 k gi (kpV cm vc V (ts sp))) H := hP
      have hD : va_D A (bCT k tx sg tl fo va cm (kpN vc) (sp + 1) ++ bC60 k sg ts ++ bGI k va gi ++ bG3 k gi (kpV cm vc V (ts sp))) := hD
      refine lv_iconst (v := 1) hx hb dX6_takesLetter_52 (by decide) ?_
      have e_6 : (kpN vc : Nat) = if ltC ts tl sp i = true then kpN vc else vc := by first | (with_reducible rfl) | (first | (rw [ltC_t (by omega) hq8 eq9 (by assumption)]; rfl) | (rw [ltC_f0 (by omega)]; rfl) | (rw [ltC_f1 hq8 eq9 (by assumption)]; rfl))
      have hP := Eq.mp (congrArg (fun z9 => va_P D vwCl (bCT k tx sg tl fo va cm z9 (sp + 1) ++ bC60 k sg ts ++ bGI k va gi ++ bG3 k gi (kpV cm vc V (ts sp))) H) e_6) hP
      have hD := Eq.mp (congrArg (fun z9 => va_D A (bCT k tx sg tl fo va cm z9 (sp + 1) ++ bC60 k sg ts ++ bGI k va gi ++ bG3 k gi (kpV cm vc V (ts sp)))) e_6) hD
      have e_7 : (sp + 1 : Nat) = if ltC ts tl sp i = true then sp + 1 else sp := by first | (with_reducible rfl) | (first | (rw [ltC_t (by omega) hq8 eq9 (by assumption)]; rfl) | (rw [ltC_f0 (by omega)]; rfl) | (rw [ltC_f1 hq8 eq9 (by assumption)]; rfl))
      have hP := Eq.mp (congrArg (fun z9 => va_P D vwCl (bCT k tx sg tl fo va cm (if ltC ts tl sp i = true then kpN vc else vc) z9 ++ bC60 k sg ts ++ bGI k va gi ++ bG3 k gi (kpV cm vc V (ts sp))) H) e_7) hP
      have hD := Eq.mp (congrArg (fun z9 => va_D A (bCT k tx sg tl fo va cm (if ltC ts tl sp i = true then kpN vc else vc) z9 ++ bC60 k sg ts ++ bGI k va gi ++ bG3 k gi (kpV cm vc V (ts sp)))) e_7) hD
      have e_8 : (kpV cm vc V (ts sp) : Nat → Nat → Int32) = if ltC ts tl sp i = true then kpV cm vc V (ts sp) else V := by first | (with_reducible rfl) | (first | (rw [ltC_t (by omega) hq8 eq9 (by assumption)]; rfl) | (rw [ltC_f0 (by omega)]; rfl) | (rw [ltC_f1 hq8 eq9 (by assumption)]; rfl))
      have hP := Eq.mp (congrArg (fun z9 => va_P D vwCl (bCT k tx sg tl fo va cm (if ltC ts tl sp i = true then kpN vc else vc) (if ltC ts tl sp i = true then sp + 1 else sp) ++ bC60 k sg ts ++ bGI k va gi ++ bG3 k gi z9) H) e_8) hP
      have hD := Eq.mp (congrArg (fun z9 => va_D A (bCT k tx sg tl fo va cm (if ltC ts tl sp i = true then kpN vc else vc) (if ltC ts tl sp i = true then sp + 1 else sp) ++ bC60 k sg ts ++ bGI k va gi ++ bG3 k gi z9)) e_8) hD
      exact W.zret (v := 1) hx hb hr (rfl) (fun t9 ht hW => ⟨⟨_, (), rfl, (by first | (rw [ltC_t (by omega) hq8 eq9 (by assumption)]; rfl) | (rw [ltC_f0 (by omega)]; rfl) | (rw [ltC_f1 hq8 eq9 (by assumption)]; rfl)), ⟨by rw [ht]; exact hP, va_K.moved hW.alike hK, hD⟩⟩, hS.F ht⟩) hS.2.2 dX6_takesLetter_53 hlocks
    · skip
      refine lv_iconst (v := 0) hx hb dX6_takesLetter_27 (by decide) ?_
      have e_9 : (vc : Nat) = if ltC ts tl sp i = true then kpN vc else vc := by first | (with_reducible rfl) | (first | (rw [ltC_t (by omega) hq8 eq9 (by assumption)]; rfl) | (rw [ltC_f0 (by omega)]; rfl) | (rw [ltC_f1 hq8 eq9 (by assumption)]; rfl))
      have hP := Eq.mp (congrArg (fun z9 => va_P D vwCl (bCT k tx sg tl fo va cm z9 sp ++ bC60 k sg ts ++ bGI k va gi ++ bG3 k gi V) H) e_9) hP
      have hD := Eq.mp (congrArg (fun z9 => va_D A (bCT k tx sg tl fo va cm z9 sp ++ bC60 k sg ts ++ bGI k va gi ++ bG3 k gi V)) e_9) hD
      have e_10 : (sp : Nat) = if ltC ts tl sp i = true then sp + 1 else sp := by first | (with_reducible rfl) | (first | (rw [ltC_t (by omega) hq8 eq9 (by assumption)]; rfl) | (rw [ltC_f0 (by omega)]; rfl) | (rw [ltC_f1 hq8 eq9 (by assumption)]; rfl))
      have hP := Eq.mp (congrArg (fun z9 => va_P D vwCl (bCT k tx sg tl fo va cm (if ltC ts tl sp i = true then kpN vc else vc) z9 ++ bC60 k sg ts ++ bGI k va gi ++ bG3 k gi V) H) e_10) hP
      have hD := Eq.mp (congrArg (fun z9 => va_D A (bCT k tx sg tl fo va cm (if ltC ts tl sp i = true then kpN vc else vc) z9 ++ bC60 k sg ts ++ bGI k va gi ++ bG3 k gi V)) e_10) hD
      have e_11 : (V : Nat → Nat → Int32) = if ltC ts tl sp i = true then kpV cm vc V (ts sp) else V := by first | (with_reducible rfl) | (first | (rw [ltC_t (by omega) hq8 eq9 (by assumption)]; rfl) | (rw [ltC_f0 (by omega)]; rfl) | (rw [ltC_f1 hq8 eq9 (by assumption)]; rfl))
      have hP := Eq.mp (congrArg (fun z9 => va_P D vwCl (bCT k tx sg tl fo va cm (if ltC ts tl sp i = true then kpN vc else vc) (if ltC ts tl sp i = true then sp + 1 else sp) ++ bC60 k sg ts ++ bGI k va gi ++ bG3 k gi z9) H) e_11) hP
      have hD := Eq.mp (congrArg (fun z9 => va_D A (bCT k tx sg tl fo va cm (if ltC ts tl sp i = true then kpN vc else vc) (if ltC ts tl sp i = true then sp + 1 else sp) ++ bC60 k sg ts ++ bGI k va gi ++ bG3 k gi z9)) e_11) hD
      exact W.zret (v := 0) hx hb hr (rfl) (fun t9 ht hW => ⟨⟨_, (), rfl, (by first | (rw [ltC_t (by omega) hq8 eq9 (by assumption)]; rfl) | (rw [ltC_f0 (by omega)]; rfl) | (rw [ltC_f1 hq8 eq9 (by assumption)]; rfl)), ⟨by rw [ht]; exact hP, va_K.moved hW.alike hK, hD⟩⟩, hS.F ht⟩) hS.2.2 dX6_takesLetter_28 hlocks

set_option maxHeartbeats 4000000 in
set_option maxRecDepth 100000 in
theorem m_X6_takesPart (l9 : Launch) (D : va_G) (k : Nat → ClassId) (ks kv kf : Nat → Nat) (ka kw : Nat) (sz : Nat) (tx sg tl fo va cm vc sp : Nat) (ts : Nat → Int32) (gi : Nat → Nat) (V : Nat → Nat → Int32) (z : Int32) (htl : tl ≤ 60) (hsp : sp ≤ 60) (hts9 : tsOk ts tl) (hcm : cm < 10) (hvc : vc ≤ 3) : Met l9 yX6_takesPart wsX6_takesPart ({ frames := 5, cells := 0, slots := 0, locals := 112 }) (ZPc ks kv kf ka kw D k [.ref tx, .int z] (bCT k tx sg tl fo va cm vc sp ++ bC60 k sg ts ++ bGI k va gi ++ bG3 k gi V) sz) (WI D k (bCT k tx sg tl fo va cm ((tpS ts tl cm (true, sp, vc, V) z).2.2.1) ((tpS ts tl cm (true, sp, vc, V) z).2.1) ++ bC60 k sg ts ++ bGI k va gi ++ bG3 k gi ((tpS ts tl cm (true, sp, vc, V) z).2.2.2)) (bI (tpS ts tl cm (true, sp, vc, V) z).1) (va_A (bCT k tx sg tl fo va cm vc sp ++ bC60 k sg ts ++ bGI k va gi ++ bG3 k gi V) sz)) 0 0 (va_A (bCT k tx sg tl fo va cm vc sp ++ bC60 k sg ts ++ bGI k va gi ++ bG3 k gi V) sz) := by
  refine zMet (y := yX6_takesPart) (cc := cX6_takesPart) (maxL := 2) (ret := (some .boolean)) (Qc := fun A => WI D k (bCT k tx sg tl fo va cm ((tpS ts tl cm (true, sp, vc, V) z).2.2.1) ((tpS ts tl cm (true, sp, vc, V) z).2.1) ++ bC60 k sg ts ++ bGI k va gi ++ bG3 k gi ((tpS ts tl cm (true, sp, vc, V) z).2.2.2)) (bI (tpS ts tl cm (true, sp, vc, V) z).1) A) [.ref tx, .int z] (by decide) rfl (Nat.le_of_ble_eq_true rfl) ?_
  intro p9 e9 s9 m9 bl9 me9 c9 ls A H hF hr hlocks hP hK hN hKC hD hA hS hl
  have hl : lv_has ls 2 [(0, .ref tx), (1, .int z)] := hl
  obtain ⟨hx, hb, hml, hown, hts⟩ := id hF
  refine lv_iload_n hx hb dX6_takesPart_0 rfl (lv_at hl 1 rfl) ?_
  by_cases c_1 : z = 35
  · refine lv_lookup (off := 43) (tgt := 44) hx hb dX6_takesPart_1 (by decide) (by rw [c_1]; decide) (by decide) ?_
    refine lv_aload_n hx hb dX6_takesPart_44 rfl (lv_at hl 0 rfl) ?_
    have hq9 := mp_of (ws := bCT k tx sg tl fo va cm vc sp ++ bC60 k sg ts ++ bGI k va gi ++ bG3 k gi V) (wc := bCT k tx sg tl fo va cm vc sp ++ bC60 k sg ts ++ bGI k va gi ++ bG3 k gi V) (is := [0, 1, 2, 3, 4, 5, 6, 7, 8, 9, 10, 11, 12]) rfl
    have hFc := va_free (wc := bCT k tx sg tl fo va cm vc sp ++ bC60 k sg ts ++ bGI k va gi ++ bG3 k gi V) hD hS hA [0, 1, 2, 3, 4, 5, 6, 7, 8, 9, 10, 11, 12] hq9
    refine va_calli (va_runV (As := []) (rest := []) hF (m_X6_takesNumber l9 D k H.size tx sg tl fo va cm vc sp ts gi V htl hsp hcm hvc) (cwV 0 hts gX6_takesPart_X6_takesNumber rfl rfl rfl (by decide +kernel) ⟨Nat.le_of_ble_eq_true rfl, Nat.le_of_ble_eq_true rfl⟩) (wPreV hK hN hP hD [0, 1, 2, 3, 4, 5, 6, 7, 8, 9, 10, 11, 12] (fm_of hq9) (by decide) hq9 0 8 rfl rfl) rfl rfl hl.1 rfl (lv_room (Nat.le_of_ble_eq_true rfl)) dX6_takesPart_45 ⟨Nat.zero_le _, Nat.zero_le _⟩) hS (fun q _ h => hFc q h) hFc (fun r u9 t9 H1 locs ht hvm hw hB hz1 hk1 hS => ?_)
    obtain ⟨hP, hD⟩ := wjoin9 (wr := []) (wf := bCT k tx sg tl fo va cm (if isG ts tl sp = true then kpN vc else vc) (if isG ts tl sp = true then sp + (dkC ts tl sp) else sp) ++ bC60 k sg ts ++ bGI k va gi ++ bG3 k gi (if isG ts tl sp = true then kpV cm vc V (nvC ts sp (dkC ts tl sp)) else V)) hP hD [0, 1, 2, 3, 4, 5, 6, 7, 8, 9, 10, 11, 12] [] [0, 1, 2, 3, 4, 5, 6, 7, 8, 9, 10, 11, 12] hq9 rfl (by decide) (by decide) hk1 hFc hB ht rfl (by decide)
    subst hw
    clear hB hk1 hz1 hvm hFc hq9
    clear ht
    clear t9
    generalize H1 = H at hP hS ⊢
    have e_2 : (if isG ts tl sp = true then kpN vc else vc : Nat) = (tpS ts tl cm (true, sp, vc, V) z).2.2.1 := by first | (with_reducible rfl) | (first | (rw [tpS_35 (by assumption)] <;> rfl) | (rw [tpS_48 (by assumption) (by assumption)] <;> rfl) | (rw [tpS_75 (by assumption) (by assumption) (by assumption)] <;> rfl) | (rw [tpS_82 (by assumption) (by assumption) (by assumption) (by assumption)] <;> rfl) | (rw [tpS_o (by assumption) (by assumption) (by assumption) (by assumption)] <;> rfl))
    have hP := Eq.mp (congrArg (fun z9 => va_P D vwCl (bCT k tx sg tl fo va cm z9 (if isG ts tl sp = true then sp + (dkC ts tl sp) else sp) ++ bC60 k sg ts ++ bGI k va gi ++ bG3 k gi (if isG ts tl sp = true then kpV cm vc V (nvC ts sp (dkC ts tl sp)) else V)) H) e_2) hP
    have hD := Eq.mp (congrArg (fun z9 => va_D A (bCT k tx sg tl fo va cm z9 (if isG ts tl sp = true then sp + (dkC ts tl sp) else sp) ++ bC60 k sg ts ++ bGI k va gi ++ bG3 k gi (if isG ts tl sp = true then kpV cm vc V (nvC ts sp (dkC ts tl sp)) else V))) e_2) hD
    have e_3 : (if isG ts tl sp = true then sp + (dkC ts tl sp) else sp : Nat) = (tpS ts tl cm (true, sp, vc, V) z).2.1 := by first | (with_reducible rfl) | (first | (rw [tpS_35 (by assumption)] <;> rfl) | (rw [tpS_48 (by assumption) (by assumption)] <;> rfl) | (rw [tpS_75 (by assumption) (by assumption) (by assumption)] <;> rfl) | (rw [tpS_82 (by assumption) (by assumption) (by assumption) (by assumption)] <;> rfl) | (rw [tpS_o (by assumption) (by assumption) (by assumption) (by assumption)] <;> rfl))
    have hP := Eq.mp (congrArg (fun z9 => va_P D vwCl (bCT k tx sg tl fo va cm ((tpS ts tl cm (true, sp, vc, V) z).2.2.1) z9 ++ bC60 k sg ts ++ bGI k va gi ++ bG3 k gi (if isG ts tl sp = true then kpV cm vc V (nvC ts sp (dkC ts tl sp)) else V)) H) e_3) hP
    have hD := Eq.mp (congrArg (fun z9 => va_D A (bCT k tx sg tl fo va cm ((tpS ts tl cm (true, sp, vc, V) z).2.2.1) z9 ++ bC60 k sg ts ++ bGI k va gi ++ bG3 k gi (if isG ts tl sp = true then kpV cm vc V (nvC ts sp (dkC ts tl sp)) else V))) e_3) hD
    have e_4 : (if isG ts tl sp = true then kpV cm vc V (nvC ts sp (dkC ts tl sp)) else V : Nat → Nat → Int32) = (tpS ts tl cm (true, sp, vc, V) z).2.2.2 := by first | (with_reducible rfl) | (first | (rw [tpS_35 (by assumption)] <;> rfl) | (rw [tpS_48 (by assumption) (by assumption)] <;> rfl) | (rw [tpS_75 (by assumption) (by assumption) (by assumption)] <;> rfl) | (rw [tpS_82 (by assumption) (by assumption) (by assumption) (by assumption)] <;> rfl) | (rw [tpS_o (by assumption) (by assumption) (by assumption) (by assumption)] <;> rfl))
    have hP := Eq.mp (congrArg (fun z9 => va_P D vwCl (bCT k tx sg tl fo va cm ((tpS ts tl cm (true, sp, vc, V) z).2.2.1) ((tpS ts tl cm (true, sp, vc, V) z).2.1) ++ bC60 k sg ts ++ bGI k va gi ++ bG3 k gi z9) H) e_4) hP
    have hD := Eq.mp (congrArg (fun z9 => va_D A (bCT k tx sg tl fo va cm ((tpS ts tl cm (true, sp, vc, V) z).2.2.1) ((tpS ts tl cm (true, sp, vc, V) z).2.1) ++ bC60 k sg ts ++ bGI k va gi ++ bG3 k gi z9)) e_4) hD
    exact W.zret (v := bI (isG ts tl sp)) hx hb hr (bI_nar _) (fun t9 ht hW => ⟨⟨_, (), rfl, (by first | (rw [tpS_35 (by assumption)] <;> rfl) | (rw [tpS_48 (by assumption) (by assumption)] <;> rfl) | (rw [tpS_75 (by assumption) (by assumption) (by assumption)] <;> rfl) | (rw [tpS_82 (by assumption) (by assumption) (by assumption) (by assumption)] <;> rfl) | (rw [tpS_o (by assumption) (by assumption) (by assumption) (by assumption)] <;> rfl)), ⟨by rw [ht]; exact hP, va_K.moved hW.alike hK, hD⟩⟩, hS.F ht⟩) hS.2.2 dX6_takesPart_48 hlocks
  by_cases c_5 : z = 48
  · refine lv_lookup (off := 48) (tgt := 49) hx hb dX6_takesPart_1 (by decide) (by rw [c_5]; decide) (by decide) ?_
    refine lv_aload_n hx hb dX6_takesPart_49 rfl (lv_at hl 0 rfl) ?_
    have hq9 := mp_of (ws := bCT k tx sg tl fo va cm vc sp ++ bC60 k sg ts ++ bGI k va gi ++ bG3 k gi V) (wc := bCT k tx sg tl fo va cm vc sp ++ bC60 k sg ts ++ bGI k va gi ++ bG3 k gi V) (is := [0, 1, 2, 3, 4, 5, 6, 7, 8, 9, 10, 11, 12]) rfl
    have hFc := va_free (wc := bCT k tx sg tl fo va cm vc sp ++ bC60 k sg ts ++ bGI k va gi ++ bG3 k gi V) hD hS hA [0, 1, 2, 3, 4, 5, 6, 7, 8, 9, 10, 11, 12] hq9
    refine va_calli (va_runV (As := []) (rest := []) hF (m_X6_takesDigit l9 D k H.size tx sg tl fo va cm vc sp ts gi V htl hsp hcm hvc) (cwV 0 hts gX6_takesPart_X6_takesDigit rfl rfl rfl (by decide +kernel) ⟨Nat.le_of_ble_eq_true rfl, Nat.le_of_ble_eq_true rfl⟩) (wPreV hK hN hP hD [0, 1, 2, 3, 4, 5, 6, 7, 8, 9, 10, 11, 12] (fm_of hq9) (by decide) hq9 0 8 rfl rfl) rfl rfl hl.1 rfl (lv_room (Nat.le_of_ble_eq_true rfl)) dX6_takesPart_50 ⟨Nat.zero_le _, Nat.zero_le _⟩) hS (fun q _ h => hFc q h) hFc (fun r u9 t9 H1 locs ht hvm hw hB hz1 hk1 hS => ?_)
    obtain ⟨hP, hD⟩ := wjoin9 (wr := []) (wf := bCT k tx sg tl fo va cm (if isG ts tl sp = true then kpN vc else vc) (if isG ts tl sp = true then sp + 1 else sp) ++ bC60 k sg ts ++ bGI k va gi ++ bG3 k gi (if isG ts tl sp = true then kpV cm vc V (ts sp - 48) else V)) hP hD [0, 1, 2, 3, 4, 5, 6, 7, 8, 9, 10, 11, 12] [] [0, 1, 2, 3, 4, 5, 6, 7, 8, 9, 10, 11, 12] hq9 rfl (by decide) (by decide) hk1 hFc hB ht rfl (by decide)
    subst hw
    clear hB hk1 hz1 hvm hFc hq9
    clear ht
    clear t9
    generalize H1 = H at hP hS ⊢
    have e_6 : (if isG ts tl sp = true then kpN vc else vc : Nat) = (tpS ts tl cm (true, sp, vc, V) z).2.2.1 := by first | (with_reducible rfl) | (first | (rw [tpS_35 (by assumption)] <;> rfl) | (rw [tpS_48 (by assumption) (by assumption)] <;> rfl) | (rw [tpS_75 (by assumption) (by assumption) (by assumption)] <;> rfl) | (rw [tpS_82 (by assumption) (by assumption) (by assumption) (by assumption)] <;> rfl) | (rw [tpS_o (by assumption) (by assumption) (by assumption) (by assumption)] <;> rfl))
    have hP := Eq.mp (congrArg (fun z9 => va_P D vwCl (bCT k tx sg tl fo va cm z9 (if isG ts tl sp = true then sp + 1 else sp) ++ bC60 k sg ts ++ bGI k va gi ++ bG3 k gi (if isG ts tl sp = true then kpV cm vc V (ts sp - 48) else V)) H) e_6) hP
    have hD := Eq.mp (congrArg (fun z9 => va_D A (bCT k tx sg tl fo va cm z9 (if isG ts tl sp = true then sp + 1 else sp) ++ bC60 k sg ts ++ bGI k va gi ++ bG3 k gi (if isG ts tl sp = true then kpV cm vc V (ts sp - 48) else V))) e_6) hD
    have e_7 : (if isG ts tl sp = true then sp + 1 else sp : Nat) = (tpS ts tl cm (true, sp, vc, V) z).2.1 := by first | (with_reducible rfl) | (first | (rw [tpS_35 (by assumption)] <;> rfl) | (rw [tpS_48 (by assumption) (by assumption)] <;> rfl) | (rw [tpS_75 (by assumption) (by assumption) (by assumption)] <;> rfl) | (rw [tpS_82 (by assumption) (by assumption) (by assumption) (by assumption)] <;> rfl) | (rw [tpS_o (by assumption) (by assumption) (by assumption) (by assumption)] <;> rfl))
    have hP := Eq.mp (congrArg (fun z9 => va_P D vwCl (bCT k tx sg tl fo va cm ((tpS ts tl cm (true, sp, vc, V) z).2.2.1) z9 ++ bC60 k sg ts ++ bGI k va gi ++ bG3 k gi (if isG ts tl sp = true then kpV cm vc V (ts sp - 48) else V)) H) e_7) hP
    have hD := Eq.mp (congrArg (fun z9 => va_D A (bCT k tx sg tl fo va cm ((tpS ts tl cm (true, sp, vc, V) z).2.2.1) z9 ++ bC60 k sg ts ++ bGI k va gi ++ bG3 k gi (if isG ts tl sp = true then kpV cm vc V (ts sp - 48) else V))) e_7) hD
    have e_8 : (if isG ts tl sp = true then kpV cm vc V (ts sp - 48) else V : Nat → Nat → Int32) = (tpS ts tl cm (true, sp, vc, V) z).2.2.2 := by first | (with_reducible rfl) | (first | (rw [tpS_35 (by assumption)] <;> rfl) | (rw [tpS_48 (by assumption) (by assumption)] <;> rfl) | (rw [tpS_75 (by assumption) (by assumption) (by assumption)] <;> rfl) | (rw [tpS_82 (by assumption) (by assumption) (by assumption) (by assumption)] <;> rfl) | (rw [tpS_o (by assumption) (by assumption) (by assumption) (by assumption)] <;> rfl))
    have hP := Eq.mp (congrArg (fun z9 => va_P D vwCl (bCT k tx sg tl fo va cm ((tpS ts tl cm (true, sp, vc, V) z).2.2.1) ((tpS ts tl cm (true, sp, vc, V) z).2.1) ++ bC60 k sg ts ++ bGI k va gi ++ bG3 k gi z9) H) e_8) hP
    have hD := Eq.mp (congrArg (fun z9 => va_D A (bCT k tx sg tl fo va cm ((tpS ts tl cm (true, sp, vc, V) z).2.2.1) ((tpS ts tl cm (true, sp, vc, V) z).2.1) ++ bC60 k sg ts ++ bGI k va gi ++ bG3 k gi z9)) e_8) hD
    exact W.zret (v := bI (isG ts tl sp)) hx hb hr (bI_nar _) (fun t9 ht hW => ⟨⟨_, (), rfl, (by first | (rw [tpS_35 (by assumption)] <;> rfl) | (rw [tpS_48 (by assumption) (by assumption)] <;> rfl) | (rw [tpS_75 (by assumption) (by assumption) (by assumption)] <;> rfl) | (rw [tpS_82 (by assumption) (by assumption) (by assumption) (by assumption)] <;> rfl) | (rw [tpS_o (by assumption) (by assumption) (by assumption) (by assumption)] <;> rfl)), ⟨by rw [ht]; exact hP, va_K.moved hW.alike hK, hD⟩⟩, hS.F ht⟩) hS.2.2 dX6_takesPart_53 hlocks
  by_cases c_9 : z = 75
  · refine lv_lookup (off := 53) (tgt := 54) hx hb dX6_takesPart_1 (by decide) (by rw [c_9]; decide) (by decide) ?_
    refine lv_aload_n hx hb dX6_takesPart_54 rfl (lv_at hl 0 rfl) ?_
    refine va_ldcS hx hb hown hKC.2.2.2.2.2.2.2.2.2.2.1 dX6_takesPart_55 ?_
    have hq9 := mp_of (ws := bCT k tx sg tl fo va cm vc sp ++ bC60 k sg ts ++ bGI k va gi ++ bG3 k gi V) (wc := bCT k tx sg tl fo va cm vc sp ++ bC60 k sg ts ++ bGI k va gi ++ bG3 k gi V) (is := [0, 1, 2, 3, 4, 5, 6, 7, 8, 9, 10, 11, 12]) rfl
    have hFc := va_free (wc := bCT k tx sg tl fo va cm vc sp ++ bC60 k sg ts ++ bGI k va gi ++ bG3 k gi V) hD hS hA [0, 1, 2, 3, 4, 5, 6, 7, 8, 9, 10, 11, 12] hq9
    refine va_calli (va_runV (As := [.ref (ks 10)]) (rest := []) hF (m_X6_takesLetter l9 D k ks kv kf ka kw H.size tx sg tl fo va cm vc sp ts gi V 10 htl hsp hts9 hcm hvc (by omega)) (cwV 1 hts gX6_takesPart_X6_takesLetter rfl rfl rfl (by decide +kernel) ⟨Nat.le_of_ble_eq_true rfl, Nat.le_of_ble_eq_true rfl⟩) (zPreV hK hN hKC hS hFc hP hD [0, 1, 2, 3, 4, 5, 6, 7, 8, 9, 10, 11, 12] (fm_of hq9) (by decide) hq9 0 8 rfl rfl) rfl rfl hl.1 rfl (lv_room (Nat.le_of_ble_eq_true rfl)) dX6_takesPart_57 ⟨Nat.zero_le _, Nat.zero_le _⟩) hS (fun q _ h => hFc q h) hFc (fun r u9 t9 H1 locs ht hvm hw hB hz1 hk1 hS => ?_)
    obtain ⟨hP, hD⟩ := wjoin9 (wr := []) (wf := bCT k tx sg tl fo va cm (if ltC ts tl sp 10 = true then kpN vc else vc) (if ltC ts tl sp 10 = true then sp + 1 else sp) ++ bC60 k sg ts ++ bGI k va gi ++ bG3 k gi (if ltC ts tl sp 10 = true then kpV cm vc V (ts sp) else V)) hP hD [0, 1, 2, 3, 4, 5, 6, 7, 8, 9, 10, 11, 12] [] [0, 1, 2, 3, 4, 5, 6, 7, 8, 9, 10, 11, 12] hq9 rfl (by decide) (by decide) hk1 hFc hB ht rfl (by decide)
    subst hw
    clear hB hk1 hz1 hvm hFc hq9
    clear ht
    clear t9
    generalize H1 = H at hP hS ⊢
    have e_10 : (if ltC ts tl sp 10 = true then kpN vc else vc : Nat) = (tpS ts tl cm (true, sp, vc, V) z).2.2.1 := by first | (with_reducible rfl) | (first | (rw [tpS_35 (by assumption)] <;> rfl) | (rw [tpS_48 (by assumption) (by assumption)] <;> rfl) | (rw [tpS_75 (by assumption) (by assumption) (by assumption)] <;> rfl) | (rw [tpS_82 (by assumption) (by assumption) (by assumption) (by assumption)] <;> rfl) | (rw [tpS_o (by assumption) (by assumption) (by assumption) (by assumption)] <;> rfl))
    have hP := Eq.mp (congrArg (fun z9 => va_P D vwCl (bCT k tx sg tl fo va cm z9 (if ltC ts tl sp 10 = true then sp + 1 else sp) ++ bC60 k sg ts ++ bGI k va gi ++ bG3 k gi (if ltC ts tl sp 10 = true then kpV cm vc V (ts sp) else V)) H) e_10) hP
    have hD := Eq.mp (congrArg (fun z9 => va_D A (bCT k tx sg tl fo va cm z9 (if ltC ts tl sp 10 = true then sp + 1 else sp) ++ bC60 k sg ts ++ bGI k va gi ++ bG3 k gi (if ltC ts tl sp 10 = true then kpV cm vc V (ts sp) else V))) e_10) hD
    have e_11 : (if ltC ts tl sp 10 = true then sp + 1 else sp : Nat) = (tpS ts tl cm (true, sp, vc, V) z).2.1 := by first | (with_reducible rfl) | (first | (rw [tpS_35 (by assumption)] <;> rfl) | (rw [tpS_48 (by assumption) (by assumption)] <;> rfl) | (rw [tpS_75 (by assumption) (by assumption) (by assumption)] <;> rfl) | (rw [tpS_82 (by assumption) (by assumption) (by assumption) (by assumption)] <;> rfl) | (rw [tpS_o (by assumption) (by assumption) (by assumption) (by assumption)] <;> rfl))
    have hP := Eq.mp (congrArg (fun z9 => va_P D vwCl (bCT k tx sg tl fo va cm ((tpS ts tl cm (true, sp, vc, V) z).2.2.1) z9 ++ bC60 k sg ts ++ bGI k va gi ++ bG3 k gi (if ltC ts tl sp 10 = true then kpV cm vc V (ts sp) else V)) H) e_11) hP
    have hD := Eq.mp (congrArg (fun z9 => va_D A (bCT k tx sg tl fo va cm ((tpS ts tl cm (true, sp, vc, V) z).2.2.1) z9 ++ bC60 k sg ts ++ bGI k va gi ++ bG3 k gi (if ltC ts tl sp 10 = true then kpV cm vc V (ts sp) else V))) e_11) hD
    have e_12 : (if ltC ts tl sp 10 = true then kpV cm vc V (ts sp) else V : Nat → Nat → Int32) = (tpS ts tl cm (true, sp, vc, V) z).2.2.2 := by first | (with_reducible rfl) | (first | (rw [tpS_35 (by assumption)] <;> rfl) | (rw [tpS_48 (by assumption) (by assumption)] <;> rfl) | (rw [tpS_75 (by assumption) (by assumption) (by assumption)] <;> rfl) | (rw [tpS_82 (by assumption) (by assumption) (by assumption) (by assumption)] <;> rfl) | (rw [tpS_o (by assumption) (by assumption) (by assumption) (by assumption)] <;> rfl))
    have hP := Eq.mp (congrArg (fun z9 => va_P D vwCl (bCT k tx sg tl fo va cm ((tpS ts tl cm (true, sp, vc, V) z).2.2.1) ((tpS ts tl cm (true, sp, vc, V) z).2.1) ++ bC60 k sg ts ++ bGI k va gi ++ bG3 k gi z9) H) e_12) hP
    have hD := Eq.mp (congrArg (fun z9 => va_D A (bCT k tx sg tl fo va cm ((tpS ts tl cm (true, sp, vc, V) z).2.2.1) ((tpS ts tl cm (true, sp, vc, V) z).2.1) ++ bC60 k sg ts ++ bGI k va gi ++ bG3 k gi z9)) e_12) hD
    exact W.zret (v := bI (ltC ts tl sp 10)) hx hb hr (bI_nar _) (fun t9 ht hW => ⟨⟨_, (), rfl, (by first | (rw [tpS_35 (by assumption)] <;> rfl) | (rw [tpS_48 (by assumption) (by assumption)] <;> rfl) | (rw [tpS_75 (by assumption) (by assumption) (by assumption)] <;> rfl) | (rw [tpS_82 (by assumption) (by assumption) (by assumption) (by assumption)] <;> rfl) | (rw [tpS_o (by assumption) (by assumption) (by assumption) (by assumption)] <;> rfl)), ⟨by rw [ht]; exact hP, va_K.moved hW.alike hK, hD⟩⟩, hS.F ht⟩) hS.2.2 dX6_takesPart_60 hlocks
  by_cases c_13 : z = 82
  · refine lv_lookup (off := 60) (tgt := 61) hx hb dX6_takesPart_1 (by decide) (by rw [c_13]; decide) (by decide) ?_
    refine lv_aload_n hx hb dX6_takesPart_61 rfl (lv_at hl 0 rfl) ?_
    refine va_ldcS hx hb hown hKC.2.2.2.2.2.2.2.2.2.2.2 dX6_takesPart_62 ?_
    have hq9 := mp_of (ws := bCT k tx sg tl fo va cm vc sp ++ bC60 k sg ts ++ bGI k va gi ++ bG3 k gi V) (wc := bCT k tx sg tl fo va cm vc sp ++ bC60 k sg ts ++ bGI k va gi ++ bG3 k gi V) (is := [0, 1, 2, 3, 4, 5, 6, 7, 8, 9, 10, 11, 12]) rfl
    have hFc := va_free (wc := bCT k tx sg tl fo va cm vc sp ++ bC60 k sg ts ++ bGI k va gi ++ bG3 k gi V) hD hS hA [0, 1, 2, 3, 4, 5, 6, 7, 8, 9, 10, 11, 12] hq9
    refine va_calli (va_runV (As := [.ref (ks 11)]) (rest := []) hF (m_X6_takesLetter l9 D k ks kv kf ka kw H.size tx sg tl fo va cm vc sp ts gi V 11 htl hsp hts9 hcm hvc (by omega)) (cwV 1 hts gX6_takesPart_X6_takesLetter rfl rfl rfl (by decide +kernel) ⟨Nat.le_of_ble_eq_true rfl, Nat.le_of_ble_eq_true rfl⟩) (zPreV hK hN hKC hS hFc hP hD [0, 1, 2, 3, 4, 5, 6, 7, 8, 9, 10, 11, 12] (fm_of hq9) (by decide) hq9 0 8 rfl rfl) rfl rfl hl.1 rfl (lv_room (Nat.le_of_ble_eq_true rfl)) dX6_takesPart_64 ⟨Nat.zero_le _, Nat.zero_le _⟩) hS (fun q _ h => hFc q h) hFc (fun r u9 t9 H1 locs ht hvm hw hB hz1 hk1 hS => ?_)
    obtain ⟨hP, hD⟩ := wjoin9 (wr := []) (wf := bCT k tx sg tl fo va cm (if ltC ts tl sp 11 = true then kpN vc else vc) (if ltC ts tl sp 11 = true then sp + 1 else sp) ++ bC60 k sg ts ++ bGI k va gi ++ bG3 k gi (if ltC ts tl sp 11 = true then kpV cm vc V (ts sp) else V)) hP hD [0, 1, 2, 3, 4, 5, 6, 7, 8, 9, 10, 11, 12] [] [0, 1, 2, 3, 4, 5, 6, 7, 8, 9, 10, 11, 12] hq9 rfl (by decide) (by decide) hk1 hFc hB ht rfl (by decide)
    subst hw
    clear hB hk1 hz1 hvm hFc hq9
    clear ht
    clear t9
    generalize H1 = H at hP hS ⊢
    have e_14 : (if ltC ts tl sp 11 = true then kpN vc else vc : Nat) = (tpS ts tl cm (true, sp, vc, V) z).2.2.1 := by first | (with_reducible rfl) | (first | (rw [tpS_35 (by assumption)] <;> rfl) | (rw [tpS_48 (by assumption) (by assumption)] <;> rfl) | (rw [tpS_75 (by assumption) (by assumption) (by assumption)] <;> rfl) | (rw [tpS_82 (by assumption) (by assumption) (by assumption) (by assumption)] <;> rfl) | (rw [tpS_o (by assumption) (by assumption) (by assumption) (by assumption)] <;> rfl))
    have hP := Eq.mp (congrArg (fun z9 => va_P D vwCl (bCT k tx sg tl fo va cm z9 (if ltC ts tl sp 11 = true then sp + 1 else sp) ++ bC60 k sg ts ++ bGI k va gi ++ bG3 k gi (if ltC ts tl sp 11 = true then kpV cm vc V (ts sp) else V)) H) e_14) hP
    have hD := Eq.mp (congrArg (fun z9 => va_D A (bCT k tx sg tl fo va cm z9 (if ltC ts tl sp 11 = true then sp + 1 else sp) ++ bC60 k sg ts ++ bGI k va gi ++ bG3 k gi (if ltC ts tl sp 11 = true then kpV cm vc V (ts sp) else V))) e_14) hD
    have e_15 : (if ltC ts tl sp 11 = true then sp + 1 else sp : Nat) = (tpS ts tl cm (true, sp, vc, V) z).2.1 := by first | (with_reducible rfl) | (first | (rw [tpS_35 (by assumption)] <;> rfl) | (rw [tpS_48 (by assumption) (by assumption)] <;> rfl) | (rw [tpS_75 (by assumption) (by assumption) (by assumption)] <;> rfl) | (rw [tpS_82 (by assumption) (by assumption) (by assumption) (by assumption)] <;> rfl) | (rw [tpS_o (by assumption) (by assumption) (by assumption) (by assumption)] <;> rfl))
    have hP := Eq.mp (congrArg (fun z9 => va_P D vwCl (bCT k tx sg tl fo va cm ((tpS ts tl cm (true, sp, vc, V) z).2.2.1) z9 ++ bC60 k sg ts ++ bGI k va gi ++ bG3 k gi (if ltC ts tl sp 11 = true then kpV cm vc V (ts sp) else V)) H) e_15) hP
    have hD := Eq.mp (congrArg (fun z9 => va_D A (bCT k tx sg tl fo va cm ((tpS ts tl cm (true, sp, vc, V) z).2.2.1) z9 ++ bC60 k sg ts ++ bGI k va gi ++ bG3 k gi (if ltC ts tl sp 11 = true then kpV cm vc V (ts sp) else V))) e_15) hD
    have e_16 : (if ltC ts tl sp 11 = true then kpV cm vc V (ts sp) else V : Nat → Nat → Int32) = (tpS ts tl cm (true, sp, vc, V) z).2.2.2 := by first | (with_reducible rfl) | (first | (rw [tpS_35 (by assumption)] <;> rfl) | (rw [tpS_48 (by assumption) (by assumption)] <;> rfl) | (rw [tpS_75 (by assumption) (by assumption) (by assumption)] <;> rfl) | (rw [tpS_82 (by assumption) (by assumption) (by assumption) (by assumption)] <;> rfl) | (rw [tpS_o (by assumption) (by assumption) (by assumption) (by assumption)] <;> rfl))
    have hP := Eq.mp (congrArg (fun z9 => va_P D vwCl (bCT k tx sg tl fo va cm ((tpS ts tl cm (true, sp, vc, V) z).2.2.1) ((tpS ts tl cm (true, sp, vc, V) z).2.1) ++ bC60 k sg ts ++ bGI k va gi ++ bG3 k gi z9) H) e_16) hP
    have hD := Eq.mp (congrArg (fun z9 => va_D A (bCT k tx sg tl fo va cm ((tpS ts tl cm (true, sp, vc, V) z).2.2.1) ((tpS ts tl cm (true, sp, vc, V) z).2.1) ++ bC60 k sg ts ++ bGI k va gi ++ bG3 k gi z9)) e_16) hD
    exact W.zret (v := bI (ltC ts tl sp 11)) hx hb hr (bI_nar _) (fun t9 ht hW => ⟨⟨_, (), rfl, (by first | (rw [tpS_35 (by assumption)] <;> rfl) | (rw [tpS_48 (by assumption) (by assumption)] <;> rfl) | (rw [tpS_75 (by assumption) (by assumption) (by assumption)] <;> rfl) | (rw [tpS_82 (by assumption) (by assumption) (by assumption) (by assumption)] <;> rfl) | (rw [tpS_o (by assumption) (by assumption) (by assumption) (by assumption)] <;> rfl)), ⟨by rw [ht]; exact hP, va_K.moved hW.alike hK, hD⟩⟩, hS.F ht⟩) hS.2.2 dX6_takesPart_67 hlocks
  refine lv_lookup (off := 67) (tgt := 68) hx hb dX6_takesPart_1 (by decide) (by rw [lv_osw (k := 35) c_1 (by decide), lv_osw (k := 48) c_5 (by decide), lv_osw (k := 75) c_9 (by decide), lv_osw (k := 82) c_13 (by decide)]; rfl) (by decide) ?_
  refine lv_aload_n hx hb dX6_takesPart_68 rfl (lv_at hl 0 rfl) ?_
  refine lv_iload_n hx hb dX6_takesPart_69 rfl (lv_at hl 1 rfl) ?_
  have hq9 := mp_of (ws := bCT k tx sg tl fo va cm vc sp ++ bC60 k sg ts ++ bGI k va gi ++ bG3 k gi V) (wc := bCT k tx sg tl fo va cm vc sp ++ bC60 k sg ts) (is := [0, 1]) rfl
  have hFc := va_free (wc := bCT k tx sg tl fo va cm vc sp ++ bC60 k sg ts) hD hS hA [0, 1] hq9
  refine va_calli (va_runV (As := [.int z]) (rest := []) hF (m_X6_takesSign l9 D k H.size tx sg tl fo va cm vc sp ts z htl hsp) (cwV 1 hts gX6_takesPart_X6_takesSign rfl rfl rfl (by decide +kernel) ⟨Nat.le_of_ble_eq_true rfl, Nat.le_of_ble_eq_true rfl⟩) (wPreV hK hN hP hD [0, 1] (fm_of hq9) (by decide) hq9 0 8 rfl rfl) rfl rfl hl.1 rfl (lv_room (Nat.le_of_ble_eq_true rfl)) dX6_takesPart_70 ⟨Nat.zero_le _, Nat.zero_le _⟩) hS (fun q _ h => hFc q h) hFc (fun r u9 t9 H1 locs ht hvm hw hB hz1 hk1 hS => ?_)
  obtain ⟨hP, hD⟩ := wjoin9 (wr := bGI k va gi ++ bG3 k gi V) (wf := bCT k tx sg tl fo va cm vc (if (sgC ts tl sp z) = true then sp + 1 else sp) ++ bC60 k sg ts ++ bGI k va gi ++ bG3 k gi V) hP hD [0, 1] [2, 3, 4, 5, 6, 7, 8, 9, 10, 11, 12] [11, 12, 0, 1, 2, 3, 4, 5, 6, 7, 8, 9, 10] hq9 rfl (by decide) (by decide) hk1 hFc hB ht rfl (by decide)
  subst hw
  clear hB hk1 hz1 hvm hFc hq9
  clear ht
  clear t9
  generalize H1 = H at hP hS ⊢
  have e_17 : (vc : Nat) = (tpS ts tl cm (true, sp, vc, V) z).2.2.1 := by first | (with_reducible rfl) | (first | (rw [tpS_35 (by assumption)] <;> rfl) | (rw [tpS_48 (by assumption) (by assumption)] <;> rfl) | (rw [tpS_75 (by assumption) (by assumption) (by assumption)] <;> rfl) | (rw [tpS_82 (by assumption) (by assumption) (by assumption) (by assumption)] <;> rfl) | (rw [tpS_o (by assumption) (by assumption) (by assumption) (by assumption)] <;> rfl))
  have hP := Eq.mp (congrArg (fun z9 => va_P D vwCl (bCT k tx sg tl fo va cm z9 (if (sgC ts tl sp z) = true then sp + 1 else sp) ++ bC60 k sg ts ++ bGI k va gi ++ bG3 k gi V) H) e_17) hP
  have hD := Eq.mp (congrArg (fun z9 => va_D A (bCT k tx sg tl fo va cm z9 (if (sgC ts tl sp z) = true then sp + 1 else sp) ++ bC60 k sg ts ++ bGI k va gi ++ bG3 k gi V)) e_17) hD
  have e_18 : (if (sgC ts tl sp z) = true then sp + 1 else sp : Nat) = (tpS ts tl cm (true, sp, vc, V) z).2.1 := by first | (with_reducible rfl) | (first | (rw [tpS_35 (by assumption)] <;> rfl) | (rw [tpS_48 (by assumption) (by assumption)] <;> rfl) | (rw [tpS_75 (by assumption) (by assumption) (by assumption)] <;> rfl) | (rw [tpS_82 (by assumption) (by assumption) (by assumption) (by assumption)] <;> rfl) | (rw [tpS_o (by assumption) (by assumption) (by assumption) (by assumption)] <;> rfl))
  have hP := Eq.mp (congrArg (fun z9 => va_P D vwCl (bCT k tx sg tl fo va cm ((tpS ts tl cm (true, sp, vc, V) z).2.2.1) z9 ++ bC60 k sg ts ++ bGI k va gi ++ bG3 k gi V) H) e_18) hP
  have hD := Eq.mp (congrArg (fun z9 => va_D A (bCT k tx sg tl fo va cm ((tpS ts tl cm (true, sp, vc, V) z).2.2.1) z9 ++ bC60 k sg ts ++ bGI k va gi ++ bG3 k gi V)) e_18) hD
  have e_19 : (V : Nat → Nat → Int32) = (tpS ts tl cm (true, sp, vc, V) z).2.2.2 := by first | (with_reducible rfl) | (first | (rw [tpS_35 (by assumption)] <;> rfl) | (rw [tpS_48 (by assumption) (by assumption)] <;> rfl) | (rw [tpS_75 (by assumption) (by assumption) (by assumption)] <;> rfl) | (rw [tpS_82 (by assumption) (by assumption) (by assumption) (by assumption)] <;> rfl) | (rw [tpS_o (by assumption) (by assumption) (by assumption) (by assumption)] <;> rfl))
  have hP := Eq.mp (congrArg (fun z9 => va_P D vwCl (bCT k tx sg tl fo va cm ((tpS ts tl cm (true, sp, vc, V) z).2.2.1) ((tpS ts tl cm (true, sp, vc, V) z).2.1) ++ bC60 k sg ts ++ bGI k va gi ++ bG3 k gi z9) H) e_19) hP
  have hD := Eq.mp (congrArg (fun z9 => va_D A (bCT k tx sg tl fo va cm ((tpS ts tl cm (true, sp, vc, V) z).2.2.1) ((tpS ts tl cm (true, sp, vc, V) z).2.1) ++ bC60 k sg ts ++ bGI k va gi ++ bG3 k gi z9)) e_19) hD
  exact W.zret (v := bI (sgC ts tl sp z)) hx hb hr (bI_nar _) (fun t9 ht hW => ⟨⟨_, (), rfl, (by first | (rw [tpS_35 (by assumption)] <;> rfl) | (rw [tpS_48 (by assumption) (by assumption)] <;> rfl) | (rw [tpS_75 (by assumption) (by assumption) (by assumption)] <;> rfl) | (rw [tpS_82 (by assumption) (by assumption) (by assumption) (by assumption)] <;> rfl) | (rw [tpS_o (by assumption) (by assumption) (by assumption) (by assumption)] <;> rfl)), ⟨by rw [ht]; exact hP, va_K.moved hW.alike hK, hD⟩⟩, hS.F ht⟩) hS.2.2 dX6_takesPart_73 hlocks

set_option maxHeartbeats 4000000 in
set_option maxRecDepth 100000 in
theorem m_X6_takesForm (l9 : Launch) (D : va_G) (k : Nat → ClassId) (ks kv kf : Nat → Nat) (ka kw : Nat) (sz : Nat) (tx sg tl fo va cm vc sp : Nat) (ts : Nat → Int32) (gi : Nat → Nat) (V : Nat → Nat → Int32) (i st : Nat) (htl : tl ≤ 60) (hsp : sp ≤ 60) (hts9 : tsOk ts tl) (hcm : cm < 10) (hvc : vc ≤ 3) (hi : i < 10) (hst : st ≤ tl) : Met l9 yX6_takesForm wsX6_takesForm ({ frames := 6, cells := 0, slots := 0, locals := 133 }) (ZPc ks kv kf ka kw D k [.ref tx, .ref (kf i), .int (nI st)] (bCT k tx sg tl fo va cm vc sp ++ bC60 k sg ts ++ bGI k va gi ++ bG3 k gi V) sz) (WI D k (bCT k tx sg tl fo va cm ((tfE ts tl cm i st V).2.2.1) ((tfE ts tl cm i st V).2.1) ++ bC60 k sg ts ++ bGI k va gi ++ bG3 k gi ((tfE ts tl cm i st V).2.2.2)) (bI (tfE ts tl cm i st V).1) (va_A (bCT k tx sg tl fo va cm vc sp ++ bC60 k sg ts ++ bGI k va gi ++ bG3 k gi V) sz)) 0 0 (va_A (bCT k tx sg tl fo va cm vc sp ++ bC60 k sg ts ++ bGI k va gi ++ bG3 k gi V) sz) := by
  have hl12 := lnF_12 (i := i) (by omega)
  refine zMet (y := yX6_takesForm) (cc := cX6_takesForm) (maxL := 4) (ret := (some .boolean)) (Qc := fun A => WI D k (bCT k tx sg tl fo va cm ((tfE ts tl cm i st V).2.2.1) ((tfE ts tl cm i st V).2.1) ++ bC60 k sg ts ++ bGI k va gi ++ bG3 k gi ((tfE ts tl cm i st V).2.2.2)) (bI (tfE ts tl cm i st V).1) A) [.ref tx, .ref (kf i), .int (nI st)] (by decide) rfl (Nat.le_of_ble_eq_true rfl) ?_
  intro p9 e9 s9 m9 bl9 me9 c9 ls A H hF hr hlocks hP hK hN hKC hD hA hS hl
  have hl : lv_has ls 4 [(0, .ref tx), (1, .ref (kf i)), (2, .int (nI st))] := hl
  obtain ⟨hx, hb, hml, hown, hts⟩ := id hF
  have k_fieldLink_56 : (Cond.fieldLink RX6 56 "OpinionReactor$Form" "pattern" "Ljava/lang/String;").before _ s9 = true := hts (.fieldLink RX6 56 "OpinionReactor$Form" "pattern" "Ljava/lang/String;") (by decide +kernel)
  have k_fieldLink_36 : (Cond.fieldLink RX6 36 "OpinionReactor$CommandText" "stop" "I").before _ s9 = true := hts (.fieldLink RX6 36 "OpinionReactor$CommandText" "stop" "I") (by decide +kernel)
  have kc_RX6 : ∀ w ∈ u_ws RX6 TX6 7, w ∈ wsX6_takesForm := by decide +kernel
  have k_fieldLink_33 : (Cond.fieldLink RX6 33 "OpinionReactor$CommandText" "valueCount" "I").before _ s9 = true := hts (.fieldLink RX6 33 "OpinionReactor$CommandText" "valueCount" "I") (by decide +kernel)
  have loop_12 : ∀ (fuel : Nat) (j : Nat), (j ≤ lnF i) → ((tfU ts tl cm i st V j).1 = true) → lnF i - j < fuel → ∀ (ls : Array Slot), ∀ (H : Heap) (locs : List Loc), va_P D vwCl (bCT k tx sg tl fo va cm ((tfU ts tl cm i st V j).2.2.1) ((tfU ts tl cm i st V j).2.1) ++ bC60 k sg ts ++ bGI k va gi ++ bG3 k gi ((tfU ts tl cm i st V j).2.2.2)) H → va_D A (bCT k tx sg tl fo va cm ((tfU ts tl cm i st V j).2.2.1) ((tfU ts tl cm i st V j).2.1) ++ bC60 k sg ts ++ bGI k va gi ++ bG3 k gi ((tfU ts tl cm i st V j).2.2.2)) → va_S A s9.heap H locs → lv_has ls 4 [(0, .ref tx), (1, .ref (kf i)), (2, .int (nI st)), (3, .int (nI j))] → W p9 l9 e9 ({ frames := 6, cells := 0, slots := 0, locals := 133 }) s9 m9 ([.ref tx, .ref (kf i), .int (nI st)] : List Value).toArray bl9 me9 c9 H locs 0 0 (MQ bl9 (WI D k (bCT k tx sg tl fo va cm ((tfE ts tl cm i st V).2.2.1) ((tfE ts tl cm i st V).2.1) ++ bC60 k sg ts ++ bGI k va gi ++ bG3 k gi ((tfE ts tl cm i st V).2.2.2)) (bI (tfE ts tl cm i st V).1) A) ([.ref tx, .ref (kf i), .int (nI st)] : List Value).toArray s9 0 0 A) (F0 m9 12 ls []) := by
    intro fuel
    induction fuel with
    | zero => intro j hj ha hfuel_12; exact absurd hfuel_12 (Nat.not_lt_zero _)
    | succ fuel ih_12 =>
      intro j hj ha hfuel_12 ls H locs hP hD hS hl
      refine lv_iload_n hx hb dX6_takesForm_12 rfl (lv_at hl 3 rfl) ?_
      refine lv_aload_n hx hb dX6_takesForm_13 rfl (lv_at hl 1 rfl) ?_
      refine vk_getf hx hb (hKC.2.1 i (by omega)) hS hown k_fieldLink_56 (fun _ h9 => h9) dX6_takesForm_14 ?_
      have hq9 := mp_of (ws := bCT k tx sg tl fo va cm ((tfU ts tl cm i st V j).2.2.1) ((tfU ts tl cm i st V j).2.1) ++ bC60 k sg ts ++ bGI k va gi ++ bG3 k gi ((tfU ts tl cm i st V j).2.2.2)) (wc := []) (is := []) rfl
      have hFc := va_free (wc := []) hD hS hA [] hq9
      refine va_calli (va_runV (As := []) (rest := [.int (nI j)]) hF (m_J0_length_8abf5 l9 D k ks kv kf ka kw H.size i (by omega)) (cwV 0 hts gX6_takesForm_J0_length_8abf5 rfl rfl rfl (by decide +kernel) ⟨Nat.le_of_ble_eq_true rfl, Nat.le_of_ble_eq_true rfl⟩) (zPreR (zRecS hKC (by omega) hS) hK hN hKC hS hFc hP hD [] (fm_of hq9) (by decide) hq9) rfl rfl hl.1 rfl (lv_room (Nat.le_of_ble_eq_true rfl)) dX6_takesForm_17 ⟨Nat.zero_le _, Nat.zero_le _⟩) hS (fun q _ h => hFc q h) hFc (fun r u9 t9 H1 locs ht hvm hw hB hz1 hk1 hS => ?_)
      obtain ⟨hP, hD⟩ := wjoin9 (wr := bCT k tx sg tl fo va cm ((tfU ts tl cm i st V j).2.2.1) ((tfU ts tl cm i st V j).2.1) ++ bC60 k sg ts ++ bGI k va gi ++ bG3 k gi ((tfU ts tl cm i st V j).2.2.2)) (wf := bCT k tx sg tl fo va cm ((tfU ts tl cm i st V j).2.2.1) ((tfU ts tl cm i st V j).2.1) ++ bC60 k sg ts ++ bGI k va gi ++ bG3 k gi ((tfU ts tl cm i st V j).2.2.2)) hP hD [] [0, 1, 2, 3, 4, 5, 6, 7, 8, 9, 10, 11, 12] [0, 1, 2, 3, 4, 5, 6, 7, 8, 9, 10, 11, 12] hq9 rfl (by decide) (by decide) hk1 hFc hB ht rfl (by decide)
      subst hw
      clear hB hk1 hz1 hvm hFc hq9
      clear ht
      clear t9
      generalize H1 = H at hP hS ⊢
      refine lv_icmp_ge (tgt := 46) hx hb dX6_takesForm_20 (by decide) (fun c_1 => ?_) (fun c_1 => ?_)
      · skip
        have c_1 : (lnF i) ≤ j := (nI_leI (a := lnF i) (b := j) (by omega) (by omega)).mp c_1
        refine lv_iconst (v := 1) hx hb dX6_takesForm_46 (by decide) ?_
        have e_2 : ((tfU ts tl cm i st V j).2.2.1 : Nat) = (tfE ts tl cm i st V).2.2.1 := by first | (with_reducible rfl) | (rw [← tfE_eq, ← show j = lnF i by omega])
        have hP := Eq.mp (congrArg (fun z9 => va_P D vwCl (bCT k tx sg tl fo va cm z9 ((tfU ts tl cm i st V j).2.1) ++ bC60 k sg ts ++ bGI k va gi ++ bG3 k gi ((tfU ts tl cm i st V j).2.2.2)) H) e_2) hP
        have hD := Eq.mp (congrArg (fun z9 => va_D A (bCT k tx sg tl fo va cm z9 ((tfU ts tl cm i st V j).2.1) ++ bC60 k sg ts ++ bGI k va gi ++ bG3 k gi ((tfU ts tl cm i st V j).2.2.2))) e_2) hD
        have e_3 : ((tfU ts tl cm i st V j).2.1 : Nat) = (tfE ts tl cm i st V).2.1 := by first | (with_reducible rfl) | (rw [← tfE_eq, ← show j = lnF i by omega])
        have hP := Eq.mp (congrArg (fun z9 => va_P D vwCl (bCT k tx sg tl fo va cm ((tfE ts tl cm i st V).2.2.1) z9 ++ bC60 k sg ts ++ bGI k va gi ++ bG3 k gi ((tfU ts tl cm i st V j).2.2.2)) H) e_3) hP
        have hD := Eq.mp (congrArg (fun z9 => va_D A (bCT k tx sg tl fo va cm ((tfE ts tl cm i st V).2.2.1) z9 ++ bC60 k sg ts ++ bGI k va gi ++ bG3 k gi ((tfU ts tl cm i st V j).2.2.2))) e_3) hD
        have e_4 : ((tfU ts tl cm i st V j).2.2.2 : Nat → Nat → Int32) = (tfE ts tl cm i st V).2.2.2 := by first | (with_reducible rfl) | (rw [← tfE_eq, ← show j = lnF i by omega])
        have hP := Eq.mp (congrArg (fun z9 => va_P D vwCl (bCT k tx sg tl fo va cm ((tfE ts tl cm i st V).2.2.1) ((tfE ts tl cm i st V).2.1) ++ bC60 k sg ts ++ bGI k va gi ++ bG3 k gi z9) H) e_4) hP
        have hD := Eq.mp (congrArg (fun z9 => va_D A (bCT k tx sg tl fo va cm ((tfE ts tl cm i st V).2.2.1) ((tfE ts tl cm i st V).2.1) ++ bC60 k sg ts ++ bGI k va gi ++ bG3 k gi z9)) e_4) hD
        exact W.zret (v := 1) hx hb hr (rfl) (fun t9 ht hW => ⟨⟨_, (), rfl, (by rw [← tfE_eq, ← show j = lnF i by omega, ha]; rfl), ⟨by rw [ht]; exact hP, va_K.moved hW.alike hK, hD⟩⟩, hS.F ht⟩) hS.2.2 dX6_takesForm_47 hlocks
      · skip
        have c_1 : ¬ (lnF i) ≤ j := fun h => c_1 ((nI_leI (a := lnF i) (b := j) (by omega) (by omega)).mpr h)
        refine lv_aload_n hx hb dX6_takesForm_23 rfl (lv_at hl 0 rfl) ?_
        refine lv_aload_n hx hb dX6_takesForm_24 rfl (lv_at hl 1 rfl) ?_
        refine vk_getf hx hb (hKC.2.1 i (by omega)) hS hown k_fieldLink_56 (fun _ h9 => h9) dX6_takesForm_25 ?_
        refine lv_iload_n hx hb dX6_takesForm_28 rfl (lv_at hl 3 rfl) ?_
        have hq9 := mp_of (ws := bCT k tx sg tl fo va cm ((tfU ts tl cm i st V j).2.2.1) ((tfU ts tl cm i st V j).2.1) ++ bC60 k sg ts ++ bGI k va gi ++ bG3 k gi ((tfU ts tl cm i st V j).2.2.2)) (wc := []) (is := []) rfl
        have hFc := va_free (wc := []) hD hS hA [] hq9
        refine va_calli (va_runV (As := [.int (nI j)]) (rest := [.ref tx]) hF (m_J0_charAt_5068e l9 D k ks kv kf ka kw H.size i j (by omega) (by omega)) (cwV 1 hts gX6_takesForm_J0_charAt_5068e rfl rfl rfl (by decide +kernel) ⟨Nat.le_of_ble_eq_true rfl, Nat.le_of_ble_eq_true rfl⟩) (zPreR (zRecS hKC (by omega) hS) hK hN hKC hS hFc hP hD [] (fm_of hq9) (by decide) hq9) rfl rfl hl.1 rfl (lv_room (Nat.le_of_ble_eq_true rfl)) dX6_takesForm_29 ⟨Nat.zero_le _, Nat.zero_le _⟩) hS (fun q _ h => hFc q h) hFc (fun r u9 t9 H1 locs ht hvm hw hB hz1 hk1 hS => ?_)
        obtain ⟨hP, hD⟩ := wjoin9 (wr := bCT k tx sg tl fo va cm ((tfU ts tl cm i st V j).2.2.1) ((tfU ts tl cm i st V j).2.1) ++ bC60 k sg ts ++ bGI k va gi ++ bG3 k gi ((tfU ts tl cm i st V j).2.2.2)) (wf := bCT k tx sg tl fo va cm ((tfU ts tl cm i st V j).2.2.1) ((tfU ts tl cm i st V j).2.1) ++ bC60 k sg ts ++ bGI k va gi ++ bG3 k gi ((tfU ts tl cm i st V j).2.2.2)) hP hD [] [0, 1, 2, 3, 4, 5, 6, 7, 8, 9, 10, 11, 12] [0, 1, 2, 3, 4, 5, 6, 7, 8, 9, 10, 11, 12] hq9 rfl (by decide) (by decide) hk1 hFc hB ht rfl (by decide)
        subst hw
        clear hB hk1 hz1 hvm hFc hq9
        clear ht
        clear t9
        generalize H1 = H at hP hS ⊢
        have hq9 := mp_of (ws := bCT k tx sg tl fo va cm ((tfU ts tl cm i st V j).2.2.1) ((tfU ts tl cm i st V j).2.1) ++ bC60 k sg ts ++ bGI k va gi ++ bG3 k gi ((tfU ts tl cm i st V j).2.2.2)) (wc := bCT k tx sg tl fo va cm ((tfU ts tl cm i st V j).2.2.1) ((tfU ts tl cm i st V j).2.1) ++ bC60 k sg ts ++ bGI k va gi ++ bG3 k gi ((tfU ts tl cm i st V j).2.2.2)) (is := [0, 1, 2, 3, 4, 5, 6, 7, 8, 9, 10, 11, 12]) rfl
        have hFc := va_free (wc := bCT k tx sg tl fo va cm ((tfU ts tl cm i st V j).2.2.1) ((tfU ts tl cm i st V j).2.1) ++ bC60 k sg ts ++ bGI k va gi ++ bG3 k gi ((tfU ts tl cm i st V j).2.2.2)) hD hS hA [0, 1, 2, 3, 4, 5, 6, 7, 8, 9, 10, 11, 12] hq9
        refine va_calli (va_runV (As := [.int (chS i j)]) (rest := []) hF (m_X6_takesPart l9 D k ks kv kf ka kw H.size tx sg tl fo va cm ((tfU ts tl cm i st V j).2.2.1) ((tfU ts tl cm i st V j).2.1) ts gi ((tfU ts tl cm i st V j).2.2.2) (chS i j) htl (Nat.le_trans (tfU_le hst j) htl) hts9 hcm (tfU_vc ts tl cm i st V j)) (cwV 1 hts gX6_takesForm_X6_takesPart rfl rfl rfl (by decide +kernel) ⟨Nat.le_of_ble_eq_true rfl, Nat.le_of_ble_eq_true rfl⟩) (zPreV hK hN hKC hS hFc hP hD [0, 1, 2, 3, 4, 5, 6, 7, 8, 9, 10, 11, 12] (fm_of hq9) (by decide) hq9 0 8 rfl rfl) rfl rfl hl.1 rfl (lv_room (Nat.le_of_ble_eq_true rfl)) dX6_takesForm_32 ⟨Nat.zero_le _, Nat.zero_le _⟩) hS (fun q _ h => hFc q h) hFc (fun r u9 t9 H1 locs ht hvm hw hB hz1 hk1 hS => ?_)
        obtain ⟨hP, hD⟩ := wjoin9 (wr := []) (wf := bCT k tx sg tl fo va cm ((tpS ts tl cm (true, ((tfU ts tl cm i st V j).2.1), ((tfU ts tl cm i st V j).2.2.1), ((tfU ts tl cm i st V j).2.2.2)) (chS i j)).2.2.1) ((tpS ts tl cm (true, ((tfU ts tl cm i st V j).2.1), ((tfU ts tl cm i st V j).2.2.1), ((tfU ts tl cm i st V j).2.2.2)) (chS i j)).2.1) ++ bC60 k sg ts ++ bGI k va gi ++ bG3 k gi ((tpS ts tl cm (true, ((tfU ts tl cm i st V j).2.1), ((tfU ts tl cm i st V j).2.2.1), ((tfU ts tl cm i st V j).2.2.2)) (chS i j)).2.2.2)) hP hD [0, 1, 2, 3, 4, 5, 6, 7, 8, 9, 10, 11, 12] [] [0, 1, 2, 3, 4, 5, 6, 7, 8, 9, 10, 11, 12] hq9 rfl (by decide) (by decide) hk1 hFc hB ht rfl (by decide)
        subst hw
        clear hB hk1 hz1 hvm hFc hq9
        clear ht
        clear t9
        generalize H1 = H at hP hS ⊢
        refine lv_if_ne (tgt := 40) hx hb dX6_takesForm_35 (by decide) (fun c_5 => ?_) (fun c_5 => ?_)
        · skip
          have c_5 : ((tpS ts tl cm (true, ((tfU ts tl cm i st V j).2.1), ((tfU ts tl cm i st V j).2.2.1), ((tfU ts tl cm i st V j).2.2.2)) (chS i j)).1) = true := bI_1 c_5
          refine lv_iinc (v := nI (j + 1)) (lv' := [(3, .int (nI (j + 1))), (0, .ref tx), (1, .ref (kf i)), (2, .int (nI st))]) hx hb dX6_takesForm_40 hl (k := 3) rfl (nI_inc j) (by decide) rfl (fun ls hl => ?_)
          refine lv_goto (tgt := 12) hx hb dX6_takesForm_43 (by decide) ?_
          have e_6 : ((tpS ts tl cm (true, ((tfU ts tl cm i st V j).2.1), ((tfU ts tl cm i st V j).2.2.1), ((tfU ts tl cm i st V j).2.2.2)) (chS i j)).2.2.1 : Nat) = (tfU ts tl cm i st V (j + 1)).2.2.1 := by first | (with_reducible rfl) | (rw [tfU_s ha]; rfl)
          have hP := Eq.mp (congrArg (fun z9 => va_P D vwCl (bCT k tx sg tl fo va cm z9 ((tpS ts tl cm (true, ((tfU ts tl cm i st V j).2.1), ((tfU ts tl cm i st V j).2.2.1), ((tfU ts tl cm i st V j).2.2.2)) (chS i j)).2.1) ++ bC60 k sg ts ++ bGI k va gi ++ bG3 k gi ((tpS ts tl cm (true, ((tfU ts tl cm i st V j).2.1), ((tfU ts tl cm i st V j).2.2.1), ((tfU ts tl cm i st V j).2.2.2)) (chS i j)).2.2.2)) H) e_6) hP
          have hD := Eq.mp (congrArg (fun z9 => va_D A (bCT k tx sg tl fo va cm z9 ((tpS ts tl cm (true, ((tfU ts tl cm i st V j).2.1), ((tfU ts tl cm i st V j).2.2.1), ((tfU ts tl cm i st V j).2.2.2)) (chS i j)).2.1) ++ bC60 k sg ts ++ bGI k va gi ++ bG3 k gi ((tpS ts tl cm (true, ((tfU ts tl cm i st V j).2.1), ((tfU ts tl cm i st V j).2.2.1), ((tfU ts tl cm i st V j).2.2.2)) (chS i j)).2.2.2))) e_6) hD
          have e_7 : ((tpS ts tl cm (true, ((tfU ts tl cm i st V j).2.1), ((tfU ts tl cm i st V j).2.2.1), ((tfU ts tl cm i st V j).2.2.2)) (chS i j)).2.1 : Nat) = (tfU ts tl cm i st V (j + 1)).2.1 := by first | (with_reducible rfl) | (rw [tfU_s ha]; rfl)
          have hP := Eq.mp (congrArg (fun z9 => va_P D vwCl (bCT k tx sg tl fo va cm ((tfU ts tl cm i st V (j + 1)).2.2.1) z9 ++ bC60 k sg ts ++ bGI k va gi ++ bG3 k gi ((tpS ts tl cm (true, ((tfU ts tl cm i st V j).2.1), ((tfU ts tl cm i st V j).2.2.1), ((tfU ts tl cm i st V j).2.2.2)) (chS i j)).2.2.2)) H) e_7) hP
          have hD := Eq.mp (congrArg (fun z9 => va_D A (bCT k tx sg tl fo va cm ((tfU ts tl cm i st V (j + 1)).2.2.1) z9 ++ bC60 k sg ts ++ bGI k va gi ++ bG3 k gi ((tpS ts tl cm (true, ((tfU ts tl cm i st V j).2.1), ((tfU ts tl cm i st V j).2.2.1), ((tfU ts tl cm i st V j).2.2.2)) (chS i j)).2.2.2))) e_7) hD
          have e_8 : ((tpS ts tl cm (true, ((tfU ts tl cm i st V j).2.1), ((tfU ts tl cm i st V j).2.2.1), ((tfU ts tl cm i st V j).2.2.2)) (chS i j)).2.2.2 : Nat → Nat → Int32) = (tfU ts tl cm i st V (j + 1)).2.2.2 := by first | (with_reducible rfl) | (rw [tfU_s ha]; rfl)
          have hP := Eq.mp (congrArg (fun z9 => va_P D vwCl (bCT k tx sg tl fo va cm ((tfU ts tl cm i st V (j + 1)).2.2.1) ((tfU ts tl cm i st V (j + 1)).2.1) ++ bC60 k sg ts ++ bGI k va gi ++ bG3 k gi z9) H) e_8) hP
          have hD := Eq.mp (congrArg (fun z9 => va_D A (bCT k tx sg tl fo va cm ((tfU ts tl cm i st V (j + 1)).2.2.1) ((tfU ts tl cm i st V (j + 1)).2.1) ++ bC60 k sg ts ++ bGI k va gi ++ bG3 k gi z9)) e_8) hD
          exact ih_12 (j + 1) (by omega) (by rw [tfU_s ha]; assumption) (by omega) ls _ _ hP hD hS (lv_one hl 1 rfl rfl (lv_one hl 2 rfl rfl (lv_one hl 3 rfl rfl (lv_one hl 0 rfl rfl (lv_nil hl)))))
        · skip
          have c_5 : ((tpS ts tl cm (true, ((tfU ts tl cm i st V j).2.1), ((tfU ts tl cm i st V j).2.2.1), ((tfU ts tl cm i st V j).2.2.2)) (chS i j)).1) = false := bI_0 c_5
          refine lv_iconst (v := 0) hx hb dX6_takesForm_38 (by decide) ?_
          have e_9 : ((tpS ts tl cm (true, ((tfU ts tl cm i st V j).2.1), ((tfU ts tl cm i st V j).2.2.1), ((tfU ts tl cm i st V j).2.2.2)) (chS i j)).2.2.1 : Nat) = (tfE ts tl cm i st V).2.2.1 := by first | (with_reducible rfl) | (rw [tfE_f ha (by assumption) (by omega)] <;> rfl)
          have hP := Eq.mp (congrArg (fun z9 => va_P D vwCl (bCT k tx sg tl fo va cm z9 ((tpS ts tl cm (true, ((tfU ts tl cm i st V j).2.1), ((tfU ts tl cm i st V j).2.2.1), ((tfU ts tl cm i st V j).2.2.2)) (chS i j)).2.1) ++ bC60 k sg ts ++ bGI k va gi ++ bG3 k gi ((tpS ts tl cm (true, ((tfU ts tl cm i st V j).2.1), ((tfU ts tl cm i st V j).2.2.1), ((tfU ts tl cm i st V j).2.2.2)) (chS i j)).2.2.2)) H) e_9) hP
          have hD := Eq.mp (congrArg (fun z9 => va_D A (bCT k tx sg tl fo va cm z9 ((tpS ts tl cm (true, ((tfU ts tl cm i st V j).2.1), ((tfU ts tl cm i st V j).2.2.1), ((tfU ts tl cm i st V j).2.2.2)) (chS i j)).2.1) ++ bC60 k sg ts ++ bGI k va gi ++ bG3 k gi ((tpS ts tl cm (true, ((tfU ts tl cm i st V j).2.1), ((tfU ts tl cm i st V j).2.2.1), ((tfU ts tl cm i st V j).2.2.2)) (chS i j)).2.2.2))) e_9) hD
          have e_10 : ((tpS ts tl cm (true, ((tfU ts tl cm i st V j).2.1), ((tfU ts tl cm i st V j).2.2.1), ((tfU ts tl cm i st V j).2.2.2)) (chS i j)).2.1 : Nat) = (tfE ts tl cm i st V).2.1 := by first | (with_reducible rfl) | (rw [tfE_f ha (by assumption) (by omega)] <;> rfl)
          have hP := Eq.mp (congrArg (fun z9 => va_P D vwCl (bCT k tx sg tl fo va cm ((tfE ts tl cm i st V).2.2.1) z9 ++ bC60 k sg ts ++ bGI k va gi ++ bG3 k gi ((tpS ts tl cm (true, ((tfU ts tl cm i st V j).2.1), ((tfU ts tl cm i st V j).2.2.1), ((tfU ts tl cm i st V j).2.2.2)) (chS i j)).2.2.2)) H) e_10) hP
          have hD := Eq.mp (congrArg (fun z9 => va_D A (bCT k tx sg tl fo va cm ((tfE ts tl cm i st V).2.2.1) z9 ++ bC60 k sg ts ++ bGI k va gi ++ bG3 k gi ((tpS ts tl cm (true, ((tfU ts tl cm i st V j).2.1), ((tfU ts tl cm i st V j).2.2.1), ((tfU ts tl cm i st V j).2.2.2)) (chS i j)).2.2.2))) e_10) hD
          have e_11 : ((tpS ts tl cm (true, ((tfU ts tl cm i st V j).2.1), ((tfU ts tl cm i st V j).2.2.1), ((tfU ts tl cm i st V j).2.2.2)) (chS i j)).2.2.2 : Nat → Nat → Int32) = (tfE ts tl cm i st V).2.2.2 := by first | (with_reducible rfl) | (rw [tfE_f ha (by assumption) (by omega)] <;> rfl)
          have hP := Eq.mp (congrArg (fun z9 => va_P D vwCl (bCT k tx sg tl fo va cm ((tfE ts tl cm i st V).2.2.1) ((tfE ts tl cm i st V).2.1) ++ bC60 k sg ts ++ bGI k va gi ++ bG3 k gi z9) H) e_11) hP
          have hD := Eq.mp (congrArg (fun z9 => va_D A (bCT k tx sg tl fo va cm ((tfE ts tl cm i st V).2.2.1) ((tfE ts tl cm i st V).2.1) ++ bC60 k sg ts ++ bGI k va gi ++ bG3 k gi z9)) e_11) hD
          exact W.zret (v := 0) hx hb hr (rfl) (fun t9 ht hW => ⟨⟨_, (), rfl, (by rw [tfE_f ha (by assumption) (by omega), show (tpS ts tl cm (tfU ts tl cm i st V j) (chS i j)).1 = false by assumption]; rfl), ⟨by rw [ht]; exact hP, va_K.moved hW.alike hK, hD⟩⟩, hS.F ht⟩) hS.2.2 dX6_takesForm_39 hlocks
  refine lv_aload_n hx hb dX6_takesForm_0 rfl (lv_at hl 0 rfl) ?_
  refine lv_iload_n hx hb dX6_takesForm_1 rfl (lv_at hl 2 rfl) ?_
  refine va_put (D := D) (ci := 8) (v := .int (nI st)) (ty := .int) (C := RX6) (T := TX6) (N := 7) hx hb hts kc_RX6 tyX6 tyX6_ok nmX6 hown hK hP hD hS 0 rfl rfl 6 (by decide) k_fieldLink_36 (fun _ h9 => h9) rfl (by decide +kernel) rfl rfl (Nat.le_of_ble_eq_true rfl) dX6_takesForm_2 (fun H locs hP hD hS => ?_)
  have hP : va_P D vwCl (bCT k tx sg tl fo va cm vc st ++ bC60 k sg ts ++ bGI k va gi ++ bG3 k gi V) H := hP
  have hD : va_D A (bCT k tx sg tl fo va cm vc st ++ bC60 k sg ts ++ bGI k va gi ++ bG3 k gi V) := hD
  refine lv_aload_n hx hb dX6_takesForm_5 rfl (lv_at hl 0 rfl) ?_
  refine lv_iconst (v := 0) hx hb dX6_takesForm_6 (by decide) ?_
  refine va_put (D := D) (ci := 8) (v := .int 0) (ty := .int) (C := RX6) (T := TX6) (N := 7) hx hb hts kc_RX6 tyX6 tyX6_ok nmX6 hown hK hP hD hS 0 rfl rfl 5 (by decide) k_fieldLink_33 (fun _ h9 => h9) rfl (by decide +kernel) rfl rfl (Nat.le_of_ble_eq_true rfl) dX6_takesForm_7 (fun H locs hP hD hS => ?_)
  have hP : va_P D vwCl (bCT k tx sg tl fo va cm 0 st ++ bC60 k sg ts ++ bGI k va gi ++ bG3 k gi V) H := hP
  have hD : va_D A (bCT k tx sg tl fo va cm 0 st ++ bC60 k sg ts ++ bGI k va gi ++ bG3 k gi V) := hD
  refine lv_iconst (v := 0) hx hb dX6_takesForm_10 (by decide) ?_
  refine lv_istore_n (lv' := [(3, .int 0), (0, .ref tx), (1, .ref (kf i)), (2, .int (nI st))]) hx hb dX6_takesForm_11 rfl hl (by decide) rfl (fun ls hl => ?_)
  have e_12 : (0 : Nat) = (tfU ts tl cm i st V 0).2.2.1 := by first | (with_reducible rfl) | (rfl)
  have hP := Eq.mp (congrArg (fun z9 => va_P D vwCl (bCT k tx sg tl fo va cm z9 st ++ bC60 k sg ts ++ bGI k va gi ++ bG3 k gi V) H) e_12) hP
  have hD := Eq.mp (congrArg (fun z9 => va_D A (bCT k tx sg tl fo va cm z9 st ++ bC60 k sg ts ++ bGI k va gi ++ bG3 k gi V)) e_12) hD
  have e_13 : (st : Nat) = (tfU ts tl cm i st V 0).2.1 := by first | (with_reducible rfl) | (rfl)
  have hP := Eq.mp (congrArg (fun z9 => va_P D vwCl (bCT k tx sg tl fo va cm ((tfU ts tl cm i st V 0).2.2.1) z9 ++ bC60 k sg ts ++ bGI k va gi ++ bG3 k gi V) H) e_13) hP
  have hD := Eq.mp (congrArg (fun z9 => va_D A (bCT k tx sg tl fo va cm ((tfU ts tl cm i st V 0).2.2.1) z9 ++ bC60 k sg ts ++ bGI k va gi ++ bG3 k gi V)) e_13) hD
  have e_14 : (V : Nat → Nat → Int32) = (tfU ts tl cm i st V 0).2.2.2 := by first | (with_reducible rfl) | (rfl)
  have hP := Eq.mp (congrArg (fun z9 => va_P D vwCl (bCT k tx sg tl fo va cm ((tfU ts tl cm i st V 0).2.2.1) ((tfU ts tl cm i st V 0).2.1) ++ bC60 k sg ts ++ bGI k va gi ++ bG3 k gi z9) H) e_14) hP
  have hD := Eq.mp (congrArg (fun z9 => va_D A (bCT k tx sg tl fo va cm ((tfU ts tl cm i st V 0).2.2.1) ((tfU ts tl cm i st V 0).2.1) ++ bC60 k sg ts ++ bGI k va gi ++ bG3 k gi z9)) e_14) hD
  exact loop_12 ((lnF i - 0) + 1) 0 (by omega) rfl (Nat.lt_succ_self _) ls _ _ hP hD hS (lv_one hl 1 rfl rfl (lv_one hl 2 rfl rfl (lv_one hl 3 rfl rfl (lv_one hl 0 rfl rfl (lv_nil hl)))))

set_option maxHeartbeats 4000000 in
set_option maxRecDepth 100000 in
theorem m_X6_readForm_t (l9 : Launch) (D : va_G) (k : Nat → ClassId) (ks kv kf : Nat → Nat) (ka kw : Nat) (sz : Nat) (tx sg tl fo va cm vc sp : Nat) (ts : Nat → Int32) (gi : Nat → Nat) (V : Nat → Nat → Int32) (st : Nat) (htl : tl ≤ 60) (hsp : sp ≤ 60) (hts9 : tsOk ts tl) (hcm : cm < 10) (hvc : vc ≤ 3) (hst : st ≤ tl) (hfd : (rfN ts tl cm st V vc sp) < 10) : Met l9 yX6_readForm wsX6_readForm ({ frames := 7, cells := 0, slots := 0, locals := 156 }) (ZPc ks kv kf ka kw D k [.ref tx, .int (nI st)] (bCT k tx sg tl fo va cm vc sp ++ bC60 k sg ts ++ bGI k va gi ++ bG3 k gi V) sz) (WQ D k (bCT k tx sg tl fo va cm ((rfE ts tl cm st V vc sp).2.2.1) ((rfE ts tl cm st V vc sp).2.1) ++ bC60 k sg ts ++ bGI k va gi ++ bG3 k gi ((rfE ts tl cm st V vc sp).2.2.2)) (some (kf (rfN ts tl cm st V vc sp))) (va_A (bCT k tx sg tl fo va cm vc sp ++ bC60 k sg ts ++ bGI k va gi ++ bG3 k gi V) sz)) 0 0 (va_A (bCT k tx sg tl fo va cm vc sp ++ bC60 k sg ts ++ bGI k va gi ++ bG3 k gi V) sz) := by
  refine zMet (y := yX6_readForm) (cc := cX6_readForm) (maxL := 7) (ret := (some (.object "OpinionReactor$Form"))) (Qc := fun A => WQ D k (bCT k tx sg tl fo va cm ((rfE ts tl cm st V vc sp).2.2.1) ((rfE ts tl cm st V vc sp).2.1) ++ bC60 k sg ts ++ bGI k va gi ++ bG3 k gi ((rfE ts tl cm st V vc sp).2.2.2)) (some (kf (rfN ts tl cm st V vc sp))) A) [.ref tx, .int (nI st)] (by decide) rfl (Nat.le_of_ble_eq_true rfl) ?_
  intro p9 e9 s9 m9 bl9 me9 c9 ls A H hF hr hlocks hP hK hN hKC hD hA hS hl
  have hl : lv_has ls 7 [(0, .ref tx), (1, .int (nI st))] := hl
  obtain ⟨hx, hb, hml, hown, hts⟩ := id hF
  have k_fieldLink_36 : (Cond.fieldLink RX6 36 "OpinionReactor$CommandText" "stop" "I").before _ s9 = true := hts (.fieldLink RX6 36 "OpinionReactor$CommandText" "stop" "I") (by decide +kernel)
  have kc_RX6 : ∀ w ∈ u_ws RX6 TX6 7, w ∈ wsX6_readForm := by decide +kernel
  have loop_13 : ∀ (fuel : Nat) (i : Nat), (i ≤ 10) → (∀ c, c < i → rfP ts tl cm st V vc sp c = false) → 10 - i < fuel → ∀ (ls : Array Slot), ∀ (H : Heap) (locs : List Loc), va_P D vwCl (bCT k tx sg tl fo va cm ((rfU ts tl cm st V vc sp i).2.2.1) ((rfU ts tl cm st V vc sp i).2.2.2) ++ bC60 k sg ts ++ bGI k va gi ++ bG3 k gi ((rfU ts tl cm st V vc sp i).2.1)) H → va_D A (bCT k tx sg tl fo va cm ((rfU ts tl cm st V vc sp i).2.2.1) ((rfU ts tl cm st V vc sp i).2.2.2) ++ bC60 k sg ts ++ bGI k va gi ++ bG3 k gi ((rfU ts tl cm st V vc sp i).2.1)) → va_S A s9.heap H locs → lv_has ls 7 [(0, .ref tx), (1, .int (nI st)), (2, .int (nI ((rfU ts tl cm st V vc sp i).1))), (3, .ref ka), (4, .int 10), (5, .int (nI i))] → W p9 l9 e9 ({ frames := 7, cells := 0, slots := 0, locals := 156 }) s9 m9 ([.ref tx, .int (nI st)] : List Value).toArray bl9 me9 c9 H locs 0 0 (MQ bl9 (WQ D k (bCT k tx sg tl fo va cm ((rfE ts tl cm st V vc sp).2.2.1) ((rfE ts tl cm st V vc sp).2.1) ++ bC60 k sg ts ++ bGI k va gi ++ bG3 k gi ((rfE ts tl cm st V vc sp).2.2.2)) (some (kf (rfN ts tl cm st V vc sp))) A) ([.ref tx, .int (nI st)] : List Value).toArray s9 0 0 A) (F0 m9 13 ls []) := by
    intro fuel
    induction fuel with
    | zero => intro i hi ha hfuel_13; exact absurd hfuel_13 (Nat.not_lt_zero _)
    | succ fuel ih_13 =>
      intro i hi ha hfuel_13 ls H locs hP hD hS hl
      have hle9 := rfU_le (ts := ts) (cm := cm) (V := V) (vc := vc) hst htl hsp i
      have hvc9 := rfU_vc (ts := ts) (tl := tl) (cm := cm) (st := st) (V := V) (sp := sp) hvc i
      have hte9 := tfE_le (ts := ts) (cm := cm) (i := i) (V := (rfU ts tl cm st V vc sp i).2.1) hst
      refine lv_iload hx hb dX6_readForm_13 (lv_at hl 5 rfl) ?_
      refine lv_iload hx hb dX6_readForm_15 (lv_at hl 4 rfl) ?_
      refine lv_icmp_ge (tgt := 54) hx hb dX6_readForm_17 (by decide) (fun c_1 => ?_) (fun c_1 => ?_)
      · skip
        have c_1 : 10 ≤ i := (nI_leI (a := 10) (b := i) (by omega) (by omega)).mp c_1
        exact absurd (rfN_no (fun c9 hc9 => ha c9 (by omega))) (by omega)
      · skip
        have c_1 : ¬ 10 ≤ i := fun h => c_1 ((nI_leI (a := 10) (b := i) (by omega) (by omega)).mpr h)
        refine lv_aload_n hx hb dX6_readForm_20 rfl (lv_at hl 3 rfl) ?_
        refine lv_iload hx hb dX6_readForm_21 (lv_at hl 5 rfl) ?_
        refine vb_tq hx hb hKC.2.2.2.2.2.1 hS (nI_vin (j := i) (by omega) (by decide)) (by rw [nI_clamp (by omega)]) dX6_readForm_23 ?_
        refine lv_astore (lv' := [(6, .ref (kf i)), (0, .ref tx), (1, .int (nI st)), (2, .int (nI ((rfU ts tl cm st V vc sp i).1))), (3, .ref ka), (4, .int 10), (5, .int (nI i))]) hx hb dX6_readForm_24 hl (by decide) rfl (fun ls hl => ?_)
        refine lv_aload_n hx hb dX6_readForm_26 rfl (lv_at hl 1 rfl) ?_
        refine lv_aload hx hb dX6_readForm_27 (lv_at hl 0 rfl) ?_
        refine lv_iload_n hx hb dX6_readForm_29 rfl (lv_at hl 2 rfl) ?_
        have hq9 := mp_of (ws := bCT k tx sg tl fo va cm ((rfU ts tl cm st V vc sp i).2.2.1) ((rfU ts tl cm st V vc sp i).2.2.2) ++ bC60 k sg ts ++ bGI k va gi ++ bG3 k gi ((rfU ts tl cm st V vc sp i).2.1)) (wc := bCT k tx sg tl fo va cm ((rfU ts tl cm st V vc sp i).2.2.1) ((rfU ts tl cm st V vc sp i).2.2.2) ++ bC60 k sg ts ++ bGI k va gi ++ bG3 k gi ((rfU ts tl cm st V vc sp i).2.1)) (is := [0, 1, 2, 3, 4, 5, 6, 7, 8, 9, 10, 11, 12]) rfl
        have hFc := va_free (wc := bCT k tx sg tl fo va cm ((rfU ts tl cm st V vc sp i).2.2.1) ((rfU ts tl cm st V vc sp i).2.2.2) ++ bC60 k sg ts ++ bGI k va gi ++ bG3 k gi ((rfU ts tl cm st V vc sp i).2.1)) hD hS hA [0, 1, 2, 3, 4, 5, 6, 7, 8, 9, 10, 11, 12] hq9
        refine va_calli (va_runV (As := [.ref (kf i), .int (nI st)]) (rest := []) hF (m_X6_takesForm l9 D k ks kv kf ka kw H.size tx sg tl fo va cm ((rfU ts tl cm st V vc sp i).2.2.1) ((rfU ts tl cm st V vc sp i).2.2.2) ts gi ((rfU ts tl cm st V vc sp i).2.1) i st htl hle9.2 hts9 hcm hvc9 (by omega) hst) (cwV 2 hts gX6_readForm_X6_takesForm rfl rfl rfl (by decide +kernel) ⟨Nat.le_of_ble_eq_true rfl, Nat.le_of_ble_eq_true rfl⟩) (zPreV hK hN hKC hS hFc hP hD [0, 1, 2, 3, 4, 5, 6, 7, 8, 9, 10, 11, 12] (fm_of hq9) (by decide) hq9 0 8 rfl rfl) rfl rfl hl.1 rfl (lv_room (Nat.le_of_ble_eq_true rfl)) dX6_readForm_30 ⟨Nat.zero_le _, Nat.zero_le _⟩) hS (fun q _ h => hFc q h) hFc (fun r u9 t9 H1 locs ht hvm hw hB hz1 hk1 hS => ?_)
        obtain ⟨hP, hD⟩ := wjoin9 (wr := []) (wf := bCT k tx sg tl fo va cm ((tfE ts tl cm i st ((rfU ts tl cm st V vc sp i).2.1)).2.2.1) ((tfE ts tl cm i st ((rfU ts tl cm st V vc sp i).2.1)).2.1) ++ bC60 k sg ts ++ bGI k va gi ++ bG3 k gi ((tfE ts tl cm i st ((rfU ts tl cm st V vc sp i).2.1)).2.2.2)) hP hD [0, 1, 2, 3, 4, 5, 6, 7, 8, 9, 10, 11, 12] [] [0, 1, 2, 3, 4, 5, 6, 7, 8, 9, 10, 11, 12] hq9 rfl (by decide) (by decide) hk1 hFc hB ht rfl (by decide)
        subst hw
        clear hB hk1 hz1 hvm hFc hq9
        clear ht
        clear t9
        generalize H1 = H at hP hS ⊢
        refine lv_if_eq (tgt := 39) hx hb dX6_readForm_33 (by decide) (fun c_2 => ?_) (fun c_2 => ?_)
        · skip
          have c_2 : ((tfE ts tl cm i st ((rfU ts tl cm st V vc sp i).2.1)).1) = false := bI_0 c_2
          refine lv_iload_n hx hb dX6_readForm_39 rfl (lv_at hl 3 rfl) ?_
          refine lv_aload_n hx hb dX6_readForm_40 rfl (lv_at hl 1 rfl) ?_
          refine va_get (D := D) (ci := 8) (v := .int (nI ((tfE ts tl cm i st ((rfU ts tl cm st V vc sp i).2.1)).2.1))) (C := RX6) (T := TX6) (N := 7) hx hb hts kc_RX6 hown hK hP 0 rfl rfl 6 (by decide) k_fieldLink_36 (fun _ h9 => h9) rfl dX6_readForm_41 ?_
          refine va_mmax hx hb (hml.trans hl.1.symm) hown (hts (.methodLink RX6 50 Lib.Math.max.name) (by decide +kernel)) (hts (.static Lib.Math.max.name) (by decide +kernel)) (hts (.initialized "java/lang/Math") (by decide +kernel)) (hts (.code Lib.Math.max.name Lib.Math.max.code 2 (some .int)) (by decide +kernel)) (Nat.le_of_ble_eq_true rfl) (Nat.le_of_ble_eq_true rfl) (Nat.zero_le _) (Nat.zero_le _) dX6_readForm_44 ?_
          rw [show (if (nI ((rfU ts tl cm st V vc sp i).1)) < (nI ((tfE ts tl cm i st ((rfU ts tl cm st V vc sp i).2.1)).2.1)) then (nI ((tfE ts tl cm i st ((rfU ts tl cm st V vc sp i).2.1)).2.1)) else (nI ((rfU ts tl cm st V vc sp i).1)) : Int32) = nI (max ((rfU ts tl cm st V vc sp i).1) ((tfE ts tl cm i st ((rfU ts tl cm st V vc sp i).2.1)).2.1)) from nI_max (a := (rfU ts tl cm st V vc sp i).1) (b := (tfE ts tl cm i st ((rfU ts tl cm st V vc sp i).2.1)).2.1) (by omega) (by omega)]
          refine lv_istore_n (lv' := [(2, .int (nI (max ((rfU ts tl cm st V vc sp i).1) ((tfE ts tl cm i st ((rfU ts tl cm st V vc sp i).2.1)).2.1)))), (6, .ref (kf i)), (0, .ref tx), (1, .int (nI st)), (3, .ref ka), (4, .int 10), (5, .int (nI i))]) hx hb dX6_readForm_47 rfl hl (by decide) rfl (fun ls hl => ?_)
          refine lv_iinc (v := nI (i + 1)) (lv' := [(5, .int (nI (i + 1))), (2, .int (nI (max ((rfU ts tl cm st V vc sp i).1) ((tfE ts tl cm i st ((rfU ts tl cm st V vc sp i).2.1)).2.1)))), (6, .ref (kf i)), (0, .ref tx), (1, .int (nI st)), (3, .ref ka), (4, .int 10)]) hx hb dX6_readForm_48 hl (k := 6) rfl (nI_inc i) (by decide) rfl (fun ls hl => ?_)
          refine lv_goto (tgt := 13) hx hb dX6_readForm_51 (by decide) ?_
          have e_3 : (nI (max ((rfU ts tl cm st V vc sp i).1) ((tfE ts tl cm i st ((rfU ts tl cm st V vc sp i).2.1)).2.1)) : Int32) = nI ((rfU ts tl cm st V vc sp (i + 1)).1) := by first | (with_reducible rfl) | (rfl)
          have e_4 : ((tfE ts tl cm i st ((rfU ts tl cm st V vc sp i).2.1)).2.2.1 : Nat) = (rfU ts tl cm st V vc sp (i + 1)).2.2.1 := by first | (with_reducible rfl) | (rfl)
          have hP := Eq.mp (congrArg (fun z9 => va_P D vwCl (bCT k tx sg tl fo va cm z9 ((tfE ts tl cm i st ((rfU ts tl cm st V vc sp i).2.1)).2.1) ++ bC60 k sg ts ++ bGI k va gi ++ bG3 k gi ((tfE ts tl cm i st ((rfU ts tl cm st V vc sp i).2.1)).2.2.2)) H) e_4) hP
          have hD := Eq.mp (congrArg (fun z9 => va_D A (bCT k tx sg tl fo va cm z9 ((tfE ts tl cm i st ((rfU ts tl cm st V vc sp i).2.1)).2.1) ++ bC60 k sg ts ++ bGI k va gi ++ bG3 k gi ((tfE ts tl cm i st ((rfU ts tl cm st V vc sp i).2.1)).2.2.2))) e_4) hD
          have e_5 : ((tfE ts tl cm i st ((rfU ts tl cm st V vc sp i).2.1)).2.1 : Nat) = (rfU ts tl cm st V vc sp (i + 1)).2.2.2 := by first | (with_reducible rfl) | (rfl)
          have hP := Eq.mp (congrArg (fun z9 => va_P D vwCl (bCT k tx sg tl fo va cm ((rfU ts tl cm st V vc sp (i + 1)).2.2.1) z9 ++ bC60 k sg ts ++ bGI k va gi ++ bG3 k gi ((tfE ts tl cm i st ((rfU ts tl cm st V vc sp i).2.1)).2.2.2)) H) e_5) hP
          have hD := Eq.mp (congrArg (fun z9 => va_D A (bCT k tx sg tl fo va cm ((rfU ts tl cm st V vc sp (i + 1)).2.2.1) z9 ++ bC60 k sg ts ++ bGI k va gi ++ bG3 k gi ((tfE ts tl cm i st ((rfU ts tl cm st V vc sp i).2.1)).2.2.2))) e_5) hD
          have e_6 : ((tfE ts tl cm i st ((rfU ts tl cm st V vc sp i).2.1)).2.2.2 : Nat → Nat → Int32) = (rfU ts tl cm st V vc sp (i + 1)).2.1 := by first | (with_reducible rfl) | (rfl)
          have hP := Eq.mp (congrArg (fun z9 => va_P D vwCl (bCT k tx sg tl fo va cm ((rfU ts tl cm st V vc sp (i + 1)).2.2.1) ((rfU ts tl cm st V vc sp (i + 1)).2.2.2) ++ bC60 k sg ts ++ bGI k va gi ++ bG3 k gi z9) H) e_6) hP
          have hD := Eq.mp (congrArg (fun z9 => va_D A (bCT k tx sg tl fo va cm ((rfU ts tl cm st V vc sp (i + 1)).2.2.1) ((rfU ts tl cm st V vc sp (i + 1)).2.2.2) ++ bC60 k sg ts ++ bGI k va gi ++ bG3 k gi z9)) e_6) hD
          exact ih_13 (i + 1) (by omega) (fun c hc => (Nat.lt_succ_iff_lt_or_eq.mp hc).elim (ha c) (fun e => by rw [e]; assumption)) (by omega) ls _ _ hP hD hS (lv_one hl 3 rfl rfl (lv_one hl 4 rfl rfl (lv_one hl 1 rfl (congrArg Value.int e_3) (lv_one hl 5 rfl rfl (lv_one hl 6 rfl rfl (lv_one hl 0 rfl rfl (lv_nil hl)))))))
        · skip
          have c_2 : ((tfE ts tl cm i st ((rfU ts tl cm st V vc sp i).2.1)).1) = true := bI_1 c_2
          have hk9 : (rfN ts tl cm st V vc sp) = i := rfN_at ha (by assumption) (by omega)
          refine lv_aload hx hb dX6_readForm_36 (lv_at hl 0 rfl) ?_
          have e_7 : ((tfE ts tl cm i st ((rfU ts tl cm st V vc sp i).2.1)).2.2.1 : Nat) = (rfE ts tl cm st V vc sp).2.2.1 := by first | (with_reducible rfl) | (unfold rfE; rw [hk9])
          have hP := Eq.mp (congrArg (fun z9 => va_P D vwCl (bCT k tx sg tl fo va cm z9 ((tfE ts tl cm i st ((rfU ts tl cm st V vc sp i).2.1)).2.1) ++ bC60 k sg ts ++ bGI k va gi ++ bG3 k gi ((tfE ts tl cm i st ((rfU ts tl cm st V vc sp i).2.1)).2.2.2)) H) e_7) hP
          have hD := Eq.mp (congrArg (fun z9 => va_D A (bCT k tx sg tl fo va cm z9 ((tfE ts tl cm i st ((rfU ts tl cm st V vc sp i).2.1)).2.1) ++ bC60 k sg ts ++ bGI k va gi ++ bG3 k gi ((tfE ts tl cm i st ((rfU ts tl cm st V vc sp i).2.1)).2.2.2))) e_7) hD
          have e_8 : ((tfE ts tl cm i st ((rfU ts tl cm st V vc sp i).2.1)).2.1 : Nat) = (rfE ts tl cm st V vc sp).2.1 := by first | (with_reducible rfl) | (unfold rfE; rw [hk9])
          have hP := Eq.mp (congrArg (fun z9 => va_P D vwCl (bCT k tx sg tl fo va cm ((rfE ts tl cm st V vc sp).2.2.1) z9 ++ bC60 k sg ts ++ bGI k va gi ++ bG3 k gi ((tfE ts tl cm i st ((rfU ts tl cm st V vc sp i).2.1)).2.2.2)) H) e_8) hP
          have hD := Eq.mp (congrArg (fun z9 => va_D A (bCT k tx sg tl fo va cm ((rfE ts tl cm st V vc sp).2.2.1) z9 ++ bC60 k sg ts ++ bGI k va gi ++ bG3 k gi ((tfE ts tl cm i st ((rfU ts tl cm st V vc sp i).2.1)).2.2.2))) e_8) hD
          have e_9 : ((tfE ts tl cm i st ((rfU ts tl cm st V vc sp i).2.1)).2.2.2 : Nat → Nat → Int32) = (rfE ts tl cm st V vc sp).2.2.2 := by first | (with_reducible rfl) | (unfold rfE; rw [hk9])
          have hP := Eq.mp (congrArg (fun z9 => va_P D vwCl (bCT k tx sg tl fo va cm ((rfE ts tl cm st V vc sp).2.2.1) ((rfE ts tl cm st V vc sp).2.1) ++ bC60 k sg ts ++ bGI k va gi ++ bG3 k gi z9) H) e_9) hP
          have hD := Eq.mp (congrArg (fun z9 => va_D A (bCT k tx sg tl fo va cm ((rfE ts tl cm st V vc sp).2.2.1) ((rfE ts tl cm st V vc sp).2.1) ++ bC60 k sg ts ++ bGI k va gi ++ bG3 k gi z9)) e_9) hD
          exact W.aret (v := .ref (kf i)) hx hb hr (Or.inl ⟨_, rfl⟩) (Or.inr ⟨_, rfl⟩) (fun t9 ht hW => ⟨⟨some (kf i), (), rfl, (by rw [hk9]), ⟨by rw [ht]; exact hP, va_K.moved hW.alike hK, hD⟩⟩, hS.F ht⟩) hS.2.2 dX6_readForm_38 hlocks
  refine lv_iload_n hx hb dX6_readForm_0 rfl (lv_at hl 1 rfl) ?_
  refine lv_istore_n (lv' := [(2, .int (nI st)), (0, .ref tx), (1, .int (nI st))]) hx hb dX6_readForm_1 rfl hl (by decide) rfl (fun ls hl => ?_)
  refine va_getsN hx hb hKC.2.2.2.2.1 hS hown (va_Nw.use (by decide) (hN (.fieldLinkNest RX6 43 RX7 "ALL" "[LOpinionReactor$Form;" RX12) (by decide +kernel))) (fun _ h9 => h9) dX6_readForm_2 ?_
  refine lv_astore_n (lv' := [(3, .ref ka), (2, .int (nI st)), (0, .ref tx), (1, .int (nI st))]) hx hb dX6_readForm_5 rfl hl (by decide) rfl (fun ls hl => ?_)
  refine lv_aload_n hx hb dX6_readForm_6 rfl (lv_at hl 0 rfl) ?_
  refine va_tlen (v := 10) hx hb hKC.2.2.2.2.2.1 hS rfl dX6_readForm_7 ?_
  refine lv_istore (lv' := [(4, .int 10), (3, .ref ka), (2, .int (nI st)), (0, .ref tx), (1, .int (nI st))]) hx hb dX6_readForm_8 hl (by decide) rfl (fun ls hl => ?_)
  refine lv_iconst (v := 0) hx hb dX6_readForm_10 (by decide) ?_
  refine lv_istore (lv' := [(5, .int 0), (4, .int 10), (3, .ref ka), (2, .int (nI st)), (0, .ref tx), (1, .int (nI st))]) hx hb dX6_readForm_11 hl (by decide) rfl (fun ls hl => ?_)
  have e_10 : (nI st : Int32) = nI ((rfU ts tl cm st V vc sp 0).1) := by first | (with_reducible rfl) | (rfl)
  have e_11 : (vc : Nat) = (rfU ts tl cm st V vc sp 0).2.2.1 := by first | (with_reducible rfl) | (rfl)
  have hP := Eq.mp (congrArg (fun z9 => va_P D vwCl (bCT k tx sg tl fo va cm z9 sp ++ bC60 k sg ts ++ bGI k va gi ++ bG3 k gi V) H) e_11) hP
  have hD := Eq.mp (congrArg (fun z9 => va_D A (bCT k tx sg tl fo va cm z9 sp ++ bC60 k sg ts ++ bGI k va gi ++ bG3 k gi V)) e_11) hD
  have e_12 : (sp : Nat) = (rfU ts tl cm st V vc sp 0).2.2.2 := by first | (with_reducible rfl) | (rfl)
  have hP := Eq.mp (congrArg (fun z9 => va_P D vwCl (bCT k tx sg tl fo va cm ((rfU ts tl cm st V vc sp 0).2.2.1) z9 ++ bC60 k sg ts ++ bGI k va gi ++ bG3 k gi V) H) e_12) hP
  have hD := Eq.mp (congrArg (fun z9 => va_D A (bCT k tx sg tl fo va cm ((rfU ts tl cm st V vc sp 0).2.2.1) z9 ++ bC60 k sg ts ++ bGI k va gi ++ bG3 k gi V)) e_12) hD
  have e_13 : (V : Nat → Nat → Int32) = (rfU ts tl cm st V vc sp 0).2.1 := by first | (with_reducible rfl) | (rfl)
  have hP := Eq.mp (congrArg (fun z9 => va_P D vwCl (bCT k tx sg tl fo va cm ((rfU ts tl cm st V vc sp 0).2.2.1) ((rfU ts tl cm st V vc sp 0).2.2.2) ++ bC60 k sg ts ++ bGI k va gi ++ bG3 k gi z9) H) e_13) hP
  have hD := Eq.mp (congrArg (fun z9 => va_D A (bCT k tx sg tl fo va cm ((rfU ts tl cm st V vc sp 0).2.2.1) ((rfU ts tl cm st V vc sp 0).2.2.2) ++ bC60 k sg ts ++ bGI k va gi ++ bG3 k gi z9)) e_13) hD
  exact loop_13 ((10 - 0) + 1) 0 (by omega) (fun c hc => absurd hc (Nat.not_lt_zero c)) (Nat.lt_succ_self _) ls _ _ hP hD hS (lv_one hl 4 rfl rfl (lv_one hl 5 rfl rfl (lv_one hl 3 rfl (congrArg Value.int e_10) (lv_one hl 2 rfl rfl (lv_one hl 1 rfl rfl (lv_one hl 0 rfl rfl (lv_nil hl)))))))

set_option maxHeartbeats 4000000 in
set_option maxRecDepth 100000 in
theorem m_X6_readForm_f (l9 : Launch) (D : va_G) (k : Nat → ClassId) (ks kv kf : Nat → Nat) (ka kw : Nat) (sz : Nat) (tx sg tl fo va cm vc sp : Nat) (ts : Nat → Int32) (gi : Nat → Nat) (V : Nat → Nat → Int32) (st : Nat) (htl : tl ≤ 60) (hsp : sp ≤ 60) (hts9 : tsOk ts tl) (hcm : cm < 10) (hvc : vc ≤ 3) (hst : st ≤ tl) (hfd : ¬ (rfN ts tl cm st V vc sp) < 10) : Met l9 yX6_readForm wsX6_readForm ({ frames := 7, cells := 0, slots := 0, locals := 156 }) (ZPc ks kv kf ka kw D k [.ref tx, .int (nI st)] (bCT k tx sg tl fo va cm vc sp ++ bC60 k sg ts ++ bGI k va gi ++ bG3 k gi V) sz) (WQ D k (bCT k tx sg tl fo va cm ((rfU ts tl cm st V vc sp 10).2.2.1) ((rfU ts tl cm st V vc sp 10).1) ++ bC60 k sg ts ++ bGI k va gi ++ bG3 k gi ((rfU ts tl cm st V vc sp 10).2.1)) none (va_A (bCT k tx sg tl fo va cm vc sp ++ bC60 k sg ts ++ bGI k va gi ++ bG3 k gi V) sz)) 0 0 (va_A (bCT k tx sg tl fo va cm vc sp ++ bC60 k sg ts ++ bGI k va gi ++ bG3 k gi V) sz) := by
  refine zMet (y := yX6_readForm) (cc := cX6_readForm) (maxL := 7) (ret := (some (.object "OpinionReactor$Form"))) (Qc := fun A => WQ D k (bCT k tx sg tl fo va cm ((rfU ts tl cm st V vc sp 10).2.2.1) ((rfU ts tl cm st V vc sp 10).1) ++ bC60 k sg ts ++ bGI k va gi ++ bG3 k gi ((rfU ts tl cm st V vc sp 10).2.1)) none A) [.ref tx, .int (nI st)] (by decide) rfl (Nat.le_of_ble_eq_true rfl) ?_
  intro p9 e9 s9 m9 bl9 me9 c9 ls A H hF hr hlocks hP hK hN hKC hD hA hS hl
  have hl : lv_has ls 7 [(0, .ref tx), (1, .int (nI st))] := hl
  obtain ⟨hx, hb, hml, hown, hts⟩ := id hF
  have k_fieldLink_36 : (Cond.fieldLink RX6 36 "OpinionReactor$CommandText" "stop" "I").before _ s9 = true := hts (.fieldLink RX6 36 "OpinionReactor$CommandText" "stop" "I") (by decide +kernel)
  have kc_RX6 : ∀ w ∈ u_ws RX6 TX6 7, w ∈ wsX6_readForm := by decide +kernel
  have loop_13 : ∀ (fuel : Nat) (i : Nat), (i ≤ 10) → (∀ c, c < i → rfP ts tl cm st V vc sp c = false) → 10 - i < fuel → ∀ (ls : Array Slot), ∀ (H : Heap) (locs : List Loc), va_P D vwCl (bCT k tx sg tl fo va cm ((rfU ts tl cm st V vc sp i).2.2.1) ((rfU ts tl cm st V vc sp i).2.2.2) ++ bC60 k sg ts ++ bGI k va gi ++ bG3 k gi ((rfU ts tl cm st V vc sp i).2.1)) H → va_D A (bCT k tx sg tl fo va cm ((rfU ts tl cm st V vc sp i).2.2.1) ((rfU ts tl cm st V vc sp i).2.2.2) ++ bC60 k sg ts ++ bGI k va gi ++ bG3 k gi ((rfU ts tl cm st V vc sp i).2.1)) → va_S A s9.heap H locs → lv_has ls 7 [(0, .ref tx), (1, .int (nI st)), (2, .int (nI ((rfU ts tl cm st V vc sp i).1))), (3, .ref ka), (4, .int 10), (5, .int (nI i))] → W p9 l9 e9 ({ frames := 7, cells := 0, slots := 0, locals := 156 }) s9 m9 ([.ref tx, .int (nI st)] : List Value).toArray bl9 me9 c9 H locs 0 0 (MQ bl9 (WQ D k (bCT k tx sg tl fo va cm ((rfU ts tl cm st V vc sp 10).2.2.1) ((rfU ts tl cm st V vc sp 10).1) ++ bC60 k sg ts ++ bGI k va gi ++ bG3 k gi ((rfU ts tl cm st V vc sp 10).2.1)) none A) ([.ref tx, .int (nI st)] : List Value).toArray s9 0 0 A) (F0 m9 13 ls []) := by
    intro fuel
    induction fuel with
    | zero => intro i hi ha hfuel_13; exact absurd hfuel_13 (Nat.not_lt_zero _)
    | succ fuel ih_13 =>
      intro i hi ha hfuel_13 ls H locs hP hD hS hl
      have hle9 := rfU_le (ts := ts) (cm := cm) (V := V) (vc := vc) hst htl hsp i
      have hvc9 := rfU_vc (ts := ts) (tl := tl) (cm := cm) (st := st) (V := V) (sp := sp) hvc i
      have hte9 := tfE_le (ts := ts) (cm := cm) (i := i) (V := (rfU ts tl cm st V vc sp i).2.1) hst
      refine lv_iload hx hb dX6_readForm_13 (lv_at hl 5 rfl) ?_
      refine lv_iload hx hb dX6_readForm_15 (lv_at hl 4 rfl) ?_
      refine lv_icmp_ge (tgt := 54) hx hb dX6_readForm_17 (by decide) (fun c_1 => ?_) (fun c_1 => ?_)
      · skip
        have c_1 : 10 ≤ i := (nI_leI (a := 10) (b := i) (by omega) (by omega)).mp c_1
        refine lv_aload_n hx hb dX6_readForm_54 rfl (lv_at hl 0 rfl) ?_
        refine lv_iload_n hx hb dX6_readForm_55 rfl (lv_at hl 2 rfl) ?_
        refine va_put (D := D) (ci := 8) (v := .int (nI ((rfU ts tl cm st V vc sp i).1))) (ty := .int) (C := RX6) (T := TX6) (N := 7) hx hb hts kc_RX6 tyX6 tyX6_ok nmX6 hown hK hP hD hS 0 rfl rfl 6 (by decide) k_fieldLink_36 (fun _ h9 => h9) rfl (by decide +kernel) rfl rfl (Nat.le_of_ble_eq_true rfl) dX6_readForm_56 (fun H locs hP hD hS => ?_)
        have hP : va_P D vwCl (bCT k tx sg tl fo va cm ((rfU ts tl cm st V vc sp i).2.2.1) ((rfU ts tl cm st V vc sp i).1) ++ bC60 k sg ts ++ bGI k va gi ++ bG3 k gi ((rfU ts tl cm st V vc sp i).2.1)) H := hP
        have hD : va_D A (bCT k tx sg tl fo va cm ((rfU ts tl cm st V vc sp i).2.2.1) ((rfU ts tl cm st V vc sp i).1) ++ bC60 k sg ts ++ bGI k va gi ++ bG3 k gi ((rfU ts tl cm st V vc sp i).2.1)) := hD
        refine lv_null hx hb dX6_readForm_59 ?_
        have e_2 : ((rfU ts tl cm st V vc sp i).2.2.1 : Nat) = (rfU ts tl cm st V vc sp 10).2.2.1 := by first | (with_reducible rfl) | (rw [show i = 10 by omega])
        have hP := Eq.mp (congrArg (fun z9 => va_P D vwCl (bCT k tx sg tl fo va cm z9 ((rfU ts tl cm st V vc sp i).1) ++ bC60 k sg ts ++ bGI k va gi ++ bG3 k gi ((rfU ts tl cm st V vc sp i).2.1)) H) e_2) hP
        have hD := Eq.mp (congrArg (fun z9 => va_D A (bCT k tx sg tl fo va cm z9 ((rfU ts tl cm st V vc sp i).1) ++ bC60 k sg ts ++ bGI k va gi ++ bG3 k gi ((rfU ts tl cm st V vc sp i).2.1))) e_2) hD
        have e_3 : ((rfU ts tl cm st V vc sp i).1 : Nat) = (rfU ts tl cm st V vc sp 10).1 := by first | (with_reducible rfl) | (rw [show i = 10 by omega])
        have hP := Eq.mp (congrArg (fun z9 => va_P D vwCl (bCT k tx sg tl fo va cm ((rfU ts tl cm st V vc sp 10).2.2.1) z9 ++ bC60 k sg ts ++ bGI k va gi ++ bG3 k gi ((rfU ts tl cm st V vc sp i).2.1)) H) e_3) hP
        have hD := Eq.mp (congrArg (fun z9 => va_D A (bCT k tx sg tl fo va cm ((rfU ts tl cm st V vc sp 10).2.2.1) z9 ++ bC60 k sg ts ++ bGI k va gi ++ bG3 k gi ((rfU ts tl cm st V vc sp i).2.1))) e_3) hD
        have e_4 : ((rfU ts tl cm st V vc sp i).2.1 : Nat → Nat → Int32) = (rfU ts tl cm st V vc sp 10).2.1 := by first | (with_reducible rfl) | (rw [show i = 10 by omega])
        have hP := Eq.mp (congrArg (fun z9 => va_P D vwCl (bCT k tx sg tl fo va cm ((rfU ts tl cm st V vc sp 10).2.2.1) ((rfU ts tl cm st V vc sp 10).1) ++ bC60 k sg ts ++ bGI k va gi ++ bG3 k gi z9) H) e_4) hP
        have hD := Eq.mp (congrArg (fun z9 => va_D A (bCT k tx sg tl fo va cm ((rfU ts tl cm st V vc sp 10).2.2.1) ((rfU ts tl cm st V vc sp 10).1) ++ bC60 k sg ts ++ bGI k va gi ++ bG3 k gi z9)) e_4) hD
        exact W.aret (v := .null) hx hb hr (Or.inl ⟨_, rfl⟩) (Or.inl rfl) (fun t9 ht hW => ⟨⟨none, (), rfl, (by rfl), ⟨by rw [ht]; exact hP, va_K.moved hW.alike hK, hD⟩⟩, hS.F ht⟩) hS.2.2 dX6_readForm_60 hlocks
      · skip
        have c_1 : ¬ 10 ≤ i := fun h => c_1 ((nI_leI (a := 10) (b := i) (by omega) (by omega)).mpr h)
        refine lv_aload_n hx hb dX6_readForm_20 rfl (lv_at hl 3 rfl) ?_
        refine lv_iload hx hb dX6_readForm_21 (lv_at hl 5 rfl) ?_
        refine vb_tq hx hb hKC.2.2.2.2.2.1 hS (nI_vin (j := i) (by omega) (by decide)) (by rw [nI_clamp (by omega)]) dX6_readForm_23 ?_
        refine lv_astore (lv' := [(6, .ref (kf i)), (0, .ref tx), (1, .int (nI st)), (2, .int (nI ((rfU ts tl cm st V vc sp i).1))), (3, .ref ka), (4, .int 10), (5, .int (nI i))]) hx hb dX6_readForm_24 hl (by decide) rfl (fun ls hl => ?_)
        refine lv_aload_n hx hb dX6_readForm_26 rfl (lv_at hl 1 rfl) ?_
        refine lv_aload hx hb dX6_readForm_27 (lv_at hl 0 rfl) ?_
        refine lv_iload_n hx hb dX6_readForm_29 rfl (lv_at hl 2 rfl) ?_
        have hq9 := mp_of (ws := bCT k tx sg tl fo va cm ((rfU ts tl cm st V vc sp i).2.2.1) ((rfU ts tl cm st V vc sp i).2.2.2) ++ bC60 k sg ts ++ bGI k va gi ++ bG3 k gi ((rfU ts tl cm st V vc sp i).2.1)) (wc := bCT k tx sg tl fo va cm ((rfU ts tl cm st V vc sp i).2.2.1) ((rfU ts tl cm st V vc sp i).2.2.2) ++ bC60 k sg ts ++ bGI k va gi ++ bG3 k gi ((rfU ts tl cm st V vc sp i).2.1)) (is := [0, 1, 2, 3, 4, 5, 6, 7, 8, 9, 10, 11, 12]) rfl
        have hFc := va_free (wc := bCT k tx sg tl fo va cm ((rfU ts tl cm st V vc sp i).2.2.1) ((rfU ts tl cm st V vc sp i).2.2.2) ++ bC60 k sg ts ++ bGI k va gi ++ bG3 k gi ((rfU ts tl cm st V vc sp i).2.1)) hD hS hA [0, 1, 2, 3, 4, 5, 6, 7, 8, 9, 10, 11, 12] hq9
        refine va_calli (va_runV (As := [.ref (kf i), .int (nI st)]) (rest := []) hF (m_X6_takesForm l9 D k ks kv kf ka kw H.size tx sg tl fo va cm ((rfU ts tl cm st V vc sp i).2.2.1) ((rfU ts tl cm st V vc sp i).2.2.2) ts gi ((rfU ts tl cm st V vc sp i).2.1) i st htl hle9.2 hts9 hcm hvc9 (by omega) hst) (cwV 2 hts gX6_readForm_X6_takesForm rfl rfl rfl (by decide +kernel) ⟨Nat.le_of_ble_eq_true rfl, Nat.le_of_ble_eq_true rfl⟩) (zPreV hK hN hKC hS hFc hP hD [0, 1, 2, 3, 4, 5, 6, 7, 8, 9, 10, 11, 12] (fm_of hq9) (by decide) hq9 0 8 rfl rfl) rfl rfl hl.1 rfl (lv_room (Nat.le_of_ble_eq_true rfl)) dX6_readForm_30 ⟨Nat.zero_le _, Nat.zero_le _⟩) hS (fun q _ h => hFc q h) hFc (fun r u9 t9 H1 locs ht hvm hw hB hz1 hk1 hS => ?_)
        obtain ⟨hP, hD⟩ := wjoin9 (wr := []) (wf := bCT k tx sg tl fo va cm ((tfE ts tl cm i st ((rfU ts tl cm st V vc sp i).2.1)).2.2.1) ((tfE ts tl cm i st ((rfU ts tl cm st V vc sp i).2.1)).2.1) ++ bC60 k sg ts ++ bGI k va gi ++ bG3 k gi ((tfE ts tl cm i st ((rfU ts tl cm st V vc sp i).2.1)).2.2.2)) hP hD [0, 1, 2, 3, 4, 5, 6, 7, 8, 9, 10, 11, 12] [] [0, 1, 2, 3, 4, 5, 6, 7, 8, 9, 10, 11, 12] hq9 rfl (by decide) (by decide) hk1 hFc hB ht rfl (by decide)
        subst hw
        clear hB hk1 hz1 hvm hFc hq9
        clear ht
        clear t9
        generalize H1 = H at hP hS ⊢
        refine lv_if_eq (tgt := 39) hx hb dX6_readForm_33 (by decide) (fun c_5 => ?_) (fun c_5 => ?_)
        · skip
          have c_5 : ((tfE ts tl cm i st ((rfU ts tl cm st V vc sp i).2.1)).1) = false := bI_0 c_5
          refine lv_iload_n hx hb dX6_readForm_39 rfl (lv_at hl 3 rfl) ?_
          refine lv_aload_n hx hb dX6_readForm_40 rfl (lv_at hl 1 rfl) ?_
          refine va_get (D := D) (ci := 8) (v := .int (nI ((tfE ts tl cm i st ((rfU ts tl cm st V vc sp i).2.1)).2.1))) (C := RX6) (T := TX6) (N := 7) hx hb hts kc_RX6 hown hK hP 0 rfl rfl 6 (by decide) k_fieldLink_36 (fun _ h9 => h9) rfl dX6_readForm_41 ?_
          refine va_mmax hx hb (hml.trans hl.1.symm) hown (hts (.methodLink RX6 50 Lib.Math.max.name) (by decide +kernel)) (hts (.static Lib.Math.max.name) (by decide +kernel)) (hts (.initialized "java/lang/Math") (by decide +kernel)) (hts (.code Lib.Math.max.name Lib.Math.max.code 2 (some .int)) (by decide +kernel)) (Nat.le_of_ble_eq_true rfl) (Nat.le_of_ble_eq_true rfl) (Nat.zero_le _) (Nat.zero_le _) dX6_readForm_44 ?_
          rw [show (if (nI ((rfU ts tl cm st V vc sp i).1)) < (nI ((tfE ts tl cm i st ((rfU ts tl cm st V vc sp i).2.1)).2.1)) then (nI ((tfE ts tl cm i st ((rfU ts tl cm st V vc sp i).2.1)).2.1)) else (nI ((rfU ts tl cm st V vc sp i).1)) : Int32) = nI (max ((rfU ts tl cm st V vc sp i).1) ((tfE ts tl cm i st ((rfU ts tl cm st V vc sp i).2.1)).2.1)) from nI_max (a := (rfU ts tl cm st V vc sp i).1) (b := (tfE ts tl cm i st ((rfU ts tl cm st V vc sp i).2.1)).2.1) (by omega) (by omega)]
          refine lv_istore_n (lv' := [(2, .int (nI (max ((rfU ts tl cm st V vc sp i).1) ((tfE ts tl cm i st ((rfU ts tl cm st V vc sp i).2.1)).2.1)))), (6, .ref (kf i)), (0, .ref tx), (1, .int (nI st)), (3, .ref ka), (4, .int 10), (5, .int (nI i))]) hx hb dX6_readForm_47 rfl hl (by decide) rfl (fun ls hl => ?_)
          refine lv_iinc (v := nI (i + 1)) (lv' := [(5, .int (nI (i + 1))), (2, .int (nI (max ((rfU ts tl cm st V vc sp i).1) ((tfE ts tl cm i st ((rfU ts tl cm st V vc sp i).2.1)).2.1)))), (6, .ref (kf i)), (0, .ref tx), (1, .int (nI st)), (3, .ref ka), (4, .int 10)]) hx hb dX6_readForm_48 hl (k := 6) rfl (nI_inc i) (by decide) rfl (fun ls hl => ?_)
          refine lv_goto (tgt := 13) hx hb dX6_readForm_51 (by decide) ?_
          have e_6 : (nI (max ((rfU ts tl cm st V vc sp i).1) ((tfE ts tl cm i st ((rfU ts tl cm st V vc sp i).2.1)).2.1)) : Int32) = nI ((rfU ts tl cm st V vc sp (i + 1)).1) := by first | (with_reducible rfl) | (rfl)
          have e_7 : ((tfE ts tl cm i st ((rfU ts tl cm st V vc sp i).2.1)).2.2.1 : Nat) = (rfU ts tl cm st V vc sp (i + 1)).2.2.1 := by first | (with_reducible rfl) | (rfl)
          have hP := Eq.mp (congrArg (fun z9 => va_P D vwCl (bCT k tx sg tl fo va cm z9 ((tfE ts tl cm i st ((rfU ts tl cm st V vc sp i).2.1)).2.1) ++ bC60 k sg ts ++ bGI k va gi ++ bG3 k gi ((tfE ts tl cm i st ((rfU ts tl cm st V vc sp i).2.1)).2.2.2)) H) e_7) hP
          have hD := Eq.mp (congrArg (fun z9 => va_D A (bCT k tx sg tl fo va cm z9 ((tfE ts tl cm i st ((rfU ts tl cm st V vc sp i).2.1)).2.1) ++ bC60 k sg ts ++ bGI k va gi ++ bG3 k gi ((tfE ts tl cm i st ((rfU ts tl cm st V vc sp i).2.1)).2.2.2))) e_7) hD
          have e_8 : ((tfE ts tl cm i st ((rfU ts tl cm st V vc sp i).2.1)).2.1 : Nat) = (rfU ts tl cm st V vc sp (i + 1)).2.2.2 := by first | (with_reducible rfl) | (rfl)
          have hP := Eq.mp (congrArg (fun z9 => va_P D vwCl (bCT k tx sg tl fo va cm ((rfU ts tl cm st V vc sp (i + 1)).2.2.1) z9 ++ bC60 k sg ts ++ bGI k va gi ++ bG3 k gi ((tfE ts tl cm i st ((rfU ts tl cm st V vc sp i).2.1)).2.2.2)) H) e_8) hP
          have hD := Eq.mp (congrArg (fun z9 => va_D A (bCT k tx sg tl fo va cm ((rfU ts tl cm st V vc sp (i + 1)).2.2.1) z9 ++ bC60 k sg ts ++ bGI k va gi ++ bG3 k gi ((tfE ts tl cm i st ((rfU ts tl cm st V vc sp i).2.1)).2.2.2))) e_8) hD
          have e_9 : ((tfE ts tl cm i st ((rfU ts tl cm st V vc sp i).2.1)).2.2.2 : Nat → Nat → Int32) = (rfU ts tl cm st V vc sp (i + 1)).2.1 := by first | (with_reducible rfl) | (rfl)
          have hP := Eq.mp (congrArg (fun z9 => va_P D vwCl (bCT k tx sg tl fo va cm ((rfU ts tl cm st V vc sp (i + 1)).2.2.1) ((rfU ts tl cm st V vc sp (i + 1)).2.2.2) ++ bC60 k sg ts ++ bGI k va gi ++ bG3 k gi z9) H) e_9) hP
          have hD := Eq.mp (congrArg (fun z9 => va_D A (bCT k tx sg tl fo va cm ((rfU ts tl cm st V vc sp (i + 1)).2.2.1) ((rfU ts tl cm st V vc sp (i + 1)).2.2.2) ++ bC60 k sg ts ++ bGI k va gi ++ bG3 k gi z9)) e_9) hD
          exact ih_13 (i + 1) (by omega) (fun c hc => (Nat.lt_succ_iff_lt_or_eq.mp hc).elim (ha c) (fun e => by rw [e]; assumption)) (by omega) ls _ _ hP hD hS (lv_one hl 3 rfl rfl (lv_one hl 4 rfl rfl (lv_one hl 1 rfl (congrArg Value.int e_6) (lv_one hl 5 rfl rfl (lv_one hl 6 rfl rfl (lv_one hl 0 rfl rfl (lv_nil hl)))))))
        · skip
          have c_5 : ((tfE ts tl cm i st ((rfU ts tl cm st V vc sp i).2.1)).1) = true := bI_1 c_5
          exact absurd (rfN_at ha c_5 (by omega)) (by omega)
  refine lv_iload_n hx hb dX6_readForm_0 rfl (lv_at hl 1 rfl) ?_
  refine lv_istore_n (lv' := [(2, .int (nI st)), (0, .ref tx), (1, .int (nI st))]) hx hb dX6_readForm_1 rfl hl (by decide) rfl (fun ls hl => ?_)
  refine va_getsN hx hb hKC.2.2.2.2.1 hS hown (va_Nw.use (by decide) (hN (.fieldLinkNest RX6 43 RX7 "ALL" "[LOpinionReactor$Form;" RX12) (by decide +kernel))) (fun _ h9 => h9) dX6_readForm_2 ?_
  refine lv_astore_n (lv' := [(3, .ref ka), (2, .int (nI st)), (0, .ref tx), (1, .int (nI st))]) hx hb dX6_readForm_5 rfl hl (by decide) rfl (fun ls hl => ?_)
  refine lv_aload_n hx hb dX6_readForm_6 rfl (lv_at hl 0 rfl) ?_
  refine va_tlen (v := 10) hx hb hKC.2.2.2.2.2.1 hS rfl dX6_readForm_7 ?_
  refine lv_istore (lv' := [(4, .int 10), (3, .ref ka), (2, .int (nI st)), (0, .ref tx), (1, .int (nI st))]) hx hb dX6_readForm_8 hl (by decide) rfl (fun ls hl => ?_)
  refine lv_iconst (v := 0) hx hb dX6_readForm_10 (by decide) ?_
  refine lv_istore (lv' := [(5, .int 0), (4, .int 10), (3, .ref ka), (2, .int (nI st)), (0, .ref tx), (1, .int (nI st))]) hx hb dX6_readForm_11 hl (by decide) rfl (fun ls hl => ?_)
  have e_10 : (nI st : Int32) = nI ((rfU ts tl cm st V vc sp 0).1) := by first | (with_reducible rfl) | (rfl)
  have e_11 : (vc : Nat) = (rfU ts tl cm st V vc sp 0).2.2.1 := by first | (with_reducible rfl) | (rfl)
  have hP := Eq.mp (congrArg (fun z9 => va_P D vwCl (bCT k tx sg tl fo va cm z9 sp ++ bC60 k sg ts ++ bGI k va gi ++ bG3 k gi V) H) e_11) hP
  have hD := Eq.mp (congrArg (fun z9 => va_D A (bCT k tx sg tl fo va cm z9 sp ++ bC60 k sg ts ++ bGI k va gi ++ bG3 k gi V)) e_11) hD
  have e_12 : (sp : Nat) = (rfU ts tl cm st V vc sp 0).2.2.2 := by first | (with_reducible rfl) | (rfl)
  have hP := Eq.mp (congrArg (fun z9 => va_P D vwCl (bCT k tx sg tl fo va cm ((rfU ts tl cm st V vc sp 0).2.2.1) z9 ++ bC60 k sg ts ++ bGI k va gi ++ bG3 k gi V) H) e_12) hP
  have hD := Eq.mp (congrArg (fun z9 => va_D A (bCT k tx sg tl fo va cm ((rfU ts tl cm st V vc sp 0).2.2.1) z9 ++ bC60 k sg ts ++ bGI k va gi ++ bG3 k gi V)) e_12) hD
  have e_13 : (V : Nat → Nat → Int32) = (rfU ts tl cm st V vc sp 0).2.1 := by first | (with_reducible rfl) | (rfl)
  have hP := Eq.mp (congrArg (fun z9 => va_P D vwCl (bCT k tx sg tl fo va cm ((rfU ts tl cm st V vc sp 0).2.2.1) ((rfU ts tl cm st V vc sp 0).2.2.2) ++ bC60 k sg ts ++ bGI k va gi ++ bG3 k gi z9) H) e_13) hP
  have hD := Eq.mp (congrArg (fun z9 => va_D A (bCT k tx sg tl fo va cm ((rfU ts tl cm st V vc sp 0).2.2.1) ((rfU ts tl cm st V vc sp 0).2.2.2) ++ bC60 k sg ts ++ bGI k va gi ++ bG3 k gi z9)) e_13) hD
  exact loop_13 ((10 - 0) + 1) 0 (by omega) (fun c hc => absurd hc (Nat.not_lt_zero c)) (Nat.lt_succ_self _) ls _ _ hP hD hS (lv_one hl 4 rfl rfl (lv_one hl 5 rfl rfl (lv_one hl 3 rfl (congrArg Value.int e_10) (lv_one hl 2 rfl rfl (lv_one hl 1 rfl rfl (lv_one hl 0 rfl rfl (lv_nil hl)))))))

set_option maxHeartbeats 4000000 in
set_option maxRecDepth 100000 in
theorem m_X6_parse (l9 : Launch) (D : va_G) (k : Nat → ClassId) (ks kv kf : Nat → Nat) (ka kw : Nat) (sz : Nat) (tx sg tl fo va cm vc sp : Nat) (ts : Nat → Int32) (gi : Nat → Nat) (V : Nat → Nat → Int32) (fs : Nat → Option Nat) (htl : tl ≤ 60) (hsp : sp ≤ 60) (hts9 : tsOk ts tl) (hvc : vc ≤ 3) (hcm9 : cm ≤ 10) : Met l9 yX6_parse wsX6_parse ({ frames := 8, cells := 0, slots := 0, locals := 182 }) (ZPc ks kv kf ka kw D k [.ref tx] (bCT k tx sg tl fo va cm vc sp ++ bC60 k sg ts ++ bGI k va gi ++ bG3 k gi V ++ bFO k fo fs) sz) (WI D k (bCT k tx sg tl fo va ((psR ts tl kf (0, V, vc, sp, fs)).2.1) ((psR ts tl kf (0, V, vc, sp, fs)).2.2.2.1) ((psR ts tl kf (0, V, vc, sp, fs)).2.2.2.2.1) ++ bC60 k sg ts ++ bGI k va gi ++ bG3 k gi ((psR ts tl kf (0, V, vc, sp, fs)).2.2.1) ++ bFO k fo ((psR ts tl kf (0, V, vc, sp, fs)).2.2.2.2.2)) ((psR ts tl kf (0, V, vc, sp, fs)).1) (va_A (bCT k tx sg tl fo va cm vc sp ++ bC60 k sg ts ++ bGI k va gi ++ bG3 k gi V ++ bFO k fo fs) sz)) 0 0 (va_A (bCT k tx sg tl fo va cm vc sp ++ bC60 k sg ts ++ bGI k va gi ++ bG3 k gi V ++ bFO k fo fs) sz) := by
  refine zMet (y := yX6_parse) (cc := cX6_parse) (maxL := 4) (ret := (some .int)) (Qc := fun A => WI D k (bCT k tx sg tl fo va ((psR ts tl kf (0, V, vc, sp, fs)).2.1) ((psR ts tl kf (0, V, vc, sp, fs)).2.2.2.1) ((psR ts tl kf (0, V, vc, sp, fs)).2.2.2.2.1) ++ bC60 k sg ts ++ bGI k va gi ++ bG3 k gi ((psR ts tl kf (0, V, vc, sp, fs)).2.2.1) ++ bFO k fo ((psR ts tl kf (0, V, vc, sp, fs)).2.2.2.2.2)) ((psR ts tl kf (0, V, vc, sp, fs)).1) A) [.ref tx] (by decide) rfl (Nat.le_of_ble_eq_true rfl) ?_
  intro p9 e9 s9 m9 bl9 me9 c9 ls A H hF hr hlocks hP hK hN hKC hD hA hS hl
  have hl : lv_has ls 4 [(0, .ref tx)] := hl
  obtain ⟨hx, hb, hml, hown, hts⟩ := id hF
  have k_fieldLink_30 : (Cond.fieldLink RX6 30 "OpinionReactor$CommandText" "commands" "I").before _ s9 = true := hts (.fieldLink RX6 30 "OpinionReactor$CommandText" "commands" "I") (by decide +kernel)
  have kc_RX6 : ∀ w ∈ u_ws RX6 TX6 7, w ∈ wsX6_parse := by decide +kernel
  have k_fieldLink_21 : (Cond.fieldLink RX6 21 "OpinionReactor$CommandText" "forms" "[LOpinionReactor$Form;").before _ s9 = true := hts (.fieldLink RX6 21 "OpinionReactor$CommandText" "forms" "[LOpinionReactor$Form;") (by decide +kernel)
  have k_fieldLink_36 : (Cond.fieldLink RX6 36 "OpinionReactor$CommandText" "stop" "I").before _ s9 = true := hts (.fieldLink RX6 36 "OpinionReactor$CommandText" "stop" "I") (by decide +kernel)
  have k_fieldLink_15 : (Cond.fieldLink RX6 15 "OpinionReactor$CommandText" "length" "I").before _ s9 = true := hts (.fieldLink RX6 15 "OpinionReactor$CommandText" "length" "I") (by decide +kernel)
  have k_fieldLink_9 : (Cond.fieldLink RX6 9 "OpinionReactor$CommandText" "signs" "[C").before _ s9 = true := hts (.fieldLink RX6 9 "OpinionReactor$CommandText" "signs" "[C") (by decide +kernel)
  have loop_4 : ∀ (fuel : Nat) (i : Nat), (i ≤ 10) → (∀ c, c < i → qsG ts tl c (psU ts tl kf (0, V, vc, sp, fs) c) = true) → 10 - i < fuel → ∀ (ls : Array Slot), ∀ (H : Heap) (locs : List Loc), va_P D vwCl (bCT k tx sg tl fo va (pcm cm i) ((psU ts tl kf (0, V, vc, sp, fs) i).2.2.1) ((psU ts tl kf (0, V, vc, sp, fs) i).2.2.2.1) ++ bC60 k sg ts ++ bGI k va gi ++ bG3 k gi ((psU ts tl kf (0, V, vc, sp, fs) i).2.1) ++ bFO k fo ((psU ts tl kf (0, V, vc, sp, fs) i).2.2.2.2)) H → va_D A (bCT k tx sg tl fo va (pcm cm i) ((psU ts tl kf (0, V, vc, sp, fs) i).2.2.1) ((psU ts tl kf (0, V, vc, sp, fs) i).2.2.2.1) ++ bC60 k sg ts ++ bGI k va gi ++ bG3 k gi ((psU ts tl kf (0, V, vc, sp, fs) i).2.1) ++ bFO k fo ((psU ts tl kf (0, V, vc, sp, fs) i).2.2.2.2)) → va_S A s9.heap H locs → lv_has ls 4 [(0, .ref tx), (1, .int (nI ((psU ts tl kf (0, V, vc, sp, fs) i).1))), (2, .int (nI i))] → W p9 l9 e9 ({ frames := 8, cells := 0, slots := 0, locals := 182 }) s9 m9 ([.ref tx] : List Value).toArray bl9 me9 c9 H locs 0 0 (MQ bl9 (WI D k (bCT k tx sg tl fo va ((psR ts tl kf (0, V, vc, sp, fs)).2.1) ((psR ts tl kf (0, V, vc, sp, fs)).2.2.2.1) ((psR ts tl kf (0, V, vc, sp, fs)).2.2.2.2.1) ++ bC60 k sg ts ++ bGI k va gi ++ bG3 k gi ((psR ts tl kf (0, V, vc, sp, fs)).2.2.1) ++ bFO k fo ((psR ts tl kf (0, V, vc, sp, fs)).2.2.2.2.2)) ((psR ts tl kf (0, V, vc, sp, fs)).1) A) ([.ref tx] : List Value).toArray s9 0 0 A) (F0 m9 4 ls []) := by
    intro fuel
    induction fuel with
    | zero => intro i hi ha hfuel_4; exact absurd hfuel_4 (Nat.not_lt_zero _)
    | succ fuel ih_4 =>
      intro i hi ha hfuel_4 ls H locs hP hD hS hl
      have hle9 := psU_le (ts := ts) (kf := kf) (s := (0, V, vc, sp, fs)) htl (Nat.zero_le tl) hsp i ha
      have hvc9 := psU_vc (ts := ts) (tl := tl) (kf := kf) (s := (0, V, vc, sp, fs)) hvc i
      have hre9 := rfE_le (ts := ts) (cm := i) (V := (psU ts tl kf (0, V, vc, sp, fs) i).2.1) (vc := (psU ts tl kf (0, V, vc, sp, fs) i).2.2.1) (sp := (psU ts tl kf (0, V, vc, sp, fs) i).2.2.2.1) hle9.1
      refine lv_iload_n hx hb dX6_parse_4 rfl (lv_at hl 2 rfl) ?_
      refine lv_bipush (v := 10) hx hb dX6_parse_5 (by decide) ?_
      refine lv_icmp_ge (tgt := 89) hx hb dX6_parse_7 (by decide) (fun c_1 => ?_) (fun c_1 => ?_)
      · skip
        have c_1 : 10 ≤ i := (nI_leI (a := 10) (b := i) (by omega) (by omega)).mp c_1
        refine lv_iload_n hx hb dX6_parse_89 rfl (lv_at hl 1 rfl) ?_
        have e_2 : (pcm cm i : Nat) = (psR ts tl kf (0, V, vc, sp, fs)).2.1 := by first | (with_reducible rfl) | (rw [psR_at (psN_no (fun c hc => ha c (by omega)))]; unfold psE; rw [if_pos rfl, show i = 10 by omega] <;> rfl)
        have hP := Eq.mp (congrArg (fun z9 => va_P D vwCl (bCT k tx sg tl fo va z9 ((psU ts tl kf (0, V, vc, sp, fs) i).2.2.1) ((psU ts tl kf (0, V, vc, sp, fs) i).2.2.2.1) ++ bC60 k sg ts ++ bGI k va gi ++ bG3 k gi ((psU ts tl kf (0, V, vc, sp, fs) i).2.1) ++ bFO k fo ((psU ts tl kf (0, V, vc, sp, fs) i).2.2.2.2)) H) e_2) hP
        have hD := Eq.mp (congrArg (fun z9 => va_D A (bCT k tx sg tl fo va z9 ((psU ts tl kf (0, V, vc, sp, fs) i).2.2.1) ((psU ts tl kf (0, V, vc, sp, fs) i).2.2.2.1) ++ bC60 k sg ts ++ bGI k va gi ++ bG3 k gi ((psU ts tl kf (0, V, vc, sp, fs) i).2.1) ++ bFO k fo ((psU ts tl kf (0, V, vc, sp, fs) i).2.2.2.2))) e_2) hD
        have e_3 : ((psU ts tl kf (0, V, vc, sp, fs) i).2.2.1 : Nat) = (psR ts tl kf (0, V, vc, sp, fs)).2.2.2.1 := by first | (with_reducible rfl) | (rw [psR_at (psN_no (fun c hc => ha c (by omega)))]; unfold psE; rw [if_pos rfl, show i = 10 by omega] <;> rfl)
        have hP := Eq.mp (congrArg (fun z9 => va_P D vwCl (bCT k tx sg tl fo va ((psR ts tl kf (0, V, vc, sp, fs)).2.1) z9 ((psU ts tl kf (0, V, vc, sp, fs) i).2.2.2.1) ++ bC60 k sg ts ++ bGI k va gi ++ bG3 k gi ((psU ts tl kf (0, V, vc, sp, fs) i).2.1) ++ bFO k fo ((psU ts tl kf (0, V, vc, sp, fs) i).2.2.2.2)) H) e_3) hP
        have hD := Eq.mp (congrArg (fun z9 => va_D A (bCT k tx sg tl fo va ((psR ts tl kf (0, V, vc, sp, fs)).2.1) z9 ((psU ts tl kf (0, V, vc, sp, fs) i).2.2.2.1) ++ bC60 k sg ts ++ bGI k va gi ++ bG3 k gi ((psU ts tl kf (0, V, vc, sp, fs) i).2.1) ++ bFO k fo ((psU ts tl kf (0, V, vc, sp, fs) i).2.2.2.2))) e_3) hD
        have e_4 : ((psU ts tl kf (0, V, vc, sp, fs) i).2.2.2.1 : Nat) = (psR ts tl kf (0, V, vc, sp, fs)).2.2.2.2.1 := by first | (with_reducible rfl) | (rw [psR_at (psN_no (fun c hc => ha c (by omega)))]; unfold psE; rw [if_pos rfl, show i = 10 by omega] <;> rfl)
        have hP := Eq.mp (congrArg (fun z9 => va_P D vwCl (bCT k tx sg tl fo va ((psR ts tl kf (0, V, vc, sp, fs)).2.1) ((psR ts tl kf (0, V, vc, sp, fs)).2.2.2.1) z9 ++ bC60 k sg ts ++ bGI k va gi ++ bG3 k gi ((psU ts tl kf (0, V, vc, sp, fs) i).2.1) ++ bFO k fo ((psU ts tl kf (0, V, vc, sp, fs) i).2.2.2.2)) H) e_4) hP
        have hD := Eq.mp (congrArg (fun z9 => va_D A (bCT k tx sg tl fo va ((psR ts tl kf (0, V, vc, sp, fs)).2.1) ((psR ts tl kf (0, V, vc, sp, fs)).2.2.2.1) z9 ++ bC60 k sg ts ++ bGI k va gi ++ bG3 k gi ((psU ts tl kf (0, V, vc, sp, fs) i).2.1) ++ bFO k fo ((psU ts tl kf (0, V, vc, sp, fs) i).2.2.2.2))) e_4) hD
        have e_5 : ((psU ts tl kf (0, V, vc, sp, fs) i).2.1 : Nat → Nat → Int32) = (psR ts tl kf (0, V, vc, sp, fs)).2.2.1 := by first | (with_reducible rfl) | (rw [psR_at (psN_no (fun c hc => ha c (by omega)))]; unfold psE; rw [if_pos rfl, show i = 10 by omega] <;> rfl)
        have hP := Eq.mp (congrArg (fun z9 => va_P D vwCl (bCT k tx sg tl fo va ((psR ts tl kf (0, V, vc, sp, fs)).2.1) ((psR ts tl kf (0, V, vc, sp, fs)).2.2.2.1) ((psR ts tl kf (0, V, vc, sp, fs)).2.2.2.2.1) ++ bC60 k sg ts ++ bGI k va gi ++ bG3 k gi z9 ++ bFO k fo ((psU ts tl kf (0, V, vc, sp, fs) i).2.2.2.2)) H) e_5) hP
        have hD := Eq.mp (congrArg (fun z9 => va_D A (bCT k tx sg tl fo va ((psR ts tl kf (0, V, vc, sp, fs)).2.1) ((psR ts tl kf (0, V, vc, sp, fs)).2.2.2.1) ((psR ts tl kf (0, V, vc, sp, fs)).2.2.2.2.1) ++ bC60 k sg ts ++ bGI k va gi ++ bG3 k gi z9 ++ bFO k fo ((psU ts tl kf (0, V, vc, sp, fs) i).2.2.2.2))) e_5) hD
        have e_6 : ((psU ts tl kf (0, V, vc, sp, fs) i).2.2.2.2 : Nat → Option Nat) = (psR ts tl kf (0, V, vc, sp, fs)).2.2.2.2.2 := by first | (with_reducible rfl) | (rw [psR_at (psN_no (fun c hc => ha c (by omega)))]; unfold psE; rw [if_pos rfl, show i = 10 by omega] <;> rfl)
        have hP := Eq.mp (congrArg (fun z9 => va_P D vwCl (bCT k tx sg tl fo va ((psR ts tl kf (0, V, vc, sp, fs)).2.1) ((psR ts tl kf (0, V, vc, sp, fs)).2.2.2.1) ((psR ts tl kf (0, V, vc, sp, fs)).2.2.2.2.1) ++ bC60 k sg ts ++ bGI k va gi ++ bG3 k gi ((psR ts tl kf (0, V, vc, sp, fs)).2.2.1) ++ bFO k fo z9) H) e_6) hP
        have hD := Eq.mp (congrArg (fun z9 => va_D A (bCT k tx sg tl fo va ((psR ts tl kf (0, V, vc, sp, fs)).2.1) ((psR ts tl kf (0, V, vc, sp, fs)).2.2.2.1) ((psR ts tl kf (0, V, vc, sp, fs)).2.2.2.2.1) ++ bC60 k sg ts ++ bGI k va gi ++ bG3 k gi ((psR ts tl kf (0, V, vc, sp, fs)).2.2.1) ++ bFO k fo z9)) e_6) hD
        exact W.iret (v := nI ((psU ts tl kf (0, V, vc, sp, fs) i).1)) hx hb hr (fun t9 ht hW => ⟨⟨_, (), rfl, (by rw [psR_at (psN_no (fun c hc => ha c (by omega)))]; unfold psE; rw [if_pos rfl, show i = 10 by omega] <;> rfl), ⟨by rw [ht]; exact hP, va_K.moved hW.alike hK, hD⟩⟩, hS.F ht⟩) hS.2.2 dX6_parse_90 hlocks
      · skip
        have c_1 : ¬ 10 ≤ i := fun h => c_1 ((nI_leI (a := 10) (b := i) (by omega) (by omega)).mpr h)
        refine lv_aload_n hx hb dX6_parse_10 rfl (lv_at hl 0 rfl) ?_
        refine lv_iload_n hx hb dX6_parse_11 rfl (lv_at hl 2 rfl) ?_
        refine va_put (D := D) (ci := 8) (v := .int (nI i)) (ty := .int) (C := RX6) (T := TX6) (N := 7) hx hb hts kc_RX6 tyX6 tyX6_ok nmX6 hown hK hP hD hS 0 rfl rfl 4 (by decide) k_fieldLink_30 (fun _ h9 => h9) rfl (by decide +kernel) rfl rfl (Nat.le_of_ble_eq_true rfl) dX6_parse_12 (fun H locs hP hD hS => ?_)
        have hP : va_P D vwCl (bCT k tx sg tl fo va i ((psU ts tl kf (0, V, vc, sp, fs) i).2.2.1) ((psU ts tl kf (0, V, vc, sp, fs) i).2.2.2.1) ++ bC60 k sg ts ++ bGI k va gi ++ bG3 k gi ((psU ts tl kf (0, V, vc, sp, fs) i).2.1) ++ bFO k fo ((psU ts tl kf (0, V, vc, sp, fs) i).2.2.2.2)) H := hP
        have hD : va_D A (bCT k tx sg tl fo va i ((psU ts tl kf (0, V, vc, sp, fs) i).2.2.1) ((psU ts tl kf (0, V, vc, sp, fs) i).2.2.2.1) ++ bC60 k sg ts ++ bGI k va gi ++ bG3 k gi ((psU ts tl kf (0, V, vc, sp, fs) i).2.1) ++ bFO k fo ((psU ts tl kf (0, V, vc, sp, fs) i).2.2.2.2)) := hD
        by_cases hfd9 : rfN ts tl i (psU ts tl kf (0, V, vc, sp, fs) i).1 (psU ts tl kf (0, V, vc, sp, fs) i).2.1 (psU ts tl kf (0, V, vc, sp, fs) i).2.2.1 (psU ts tl kf (0, V, vc, sp, fs) i).2.2.2.1 < 10
        · skip
          refine lv_aload_n hx hb dX6_parse_15 rfl (lv_at hl 0 rfl) ?_
          refine lv_iload_n hx hb dX6_parse_16 rfl (lv_at hl 1 rfl) ?_
          have hq9 := mp_of (ws := bCT k tx sg tl fo va i ((psU ts tl kf (0, V, vc, sp, fs) i).2.2.1) ((psU ts tl kf (0, V, vc, sp, fs) i).2.2.2.1) ++ bC60 k sg ts ++ bGI k va gi ++ bG3 k gi ((psU ts tl kf (0, V, vc, sp, fs) i).2.1) ++ bFO k fo ((psU ts tl kf (0, V, vc, sp, fs) i).2.2.2.2)) (wc := bCT k tx sg tl fo va i ((psU ts tl kf (0, V, vc, sp, fs) i).2.2.1) ((psU ts tl kf (0, V, vc, sp, fs) i).2.2.2.1) ++ bC60 k sg ts ++ bGI k va gi ++ bG3 k gi ((psU ts tl kf (0, V, vc, sp, fs) i).2.1)) (is := [0, 1, 2, 3, 4, 5, 6, 7, 8, 9, 10, 11, 12]) rfl
          have hFc := va_free (wc := bCT k tx sg tl fo va i ((psU ts tl kf (0, V, vc, sp, fs) i).2.2.1) ((psU ts tl kf (0, V, vc, sp, fs) i).2.2.2.1) ++ bC60 k sg ts ++ bGI k va gi ++ bG3 k gi ((psU ts tl kf (0, V, vc, sp, fs) i).2.1)) hD hS hA [0, 1, 2, 3, 4, 5, 6, 7, 8, 9, 10, 11, 12] hq9
          refine va_callq (va_runV (As := [.int (nI ((psU ts tl kf (0, V, vc, sp, fs) i).1))]) (rest := []) hF (m_X6_readForm_t l9 D k ks kv kf ka kw H.size tx sg tl fo va i ((psU ts tl kf (0, V, vc, sp, fs) i).2.2.1) ((psU ts tl kf (0, V, vc, sp, fs) i).2.2.2.1) ts gi ((psU ts tl kf (0, V, vc, sp, fs) i).2.1) ((psU ts tl kf (0, V, vc, sp, fs) i).1) htl hle9.2 hts9 (by omega) hvc9 hle9.1 hfd9) (cwV 1 hts gX6_parse_X6_readForm rfl rfl rfl (by decide +kernel) ⟨Nat.le_of_ble_eq_true rfl, Nat.le_of_ble_eq_true rfl⟩) (zPreV hK hN hKC hS hFc hP hD [0, 1, 2, 3, 4, 5, 6, 7, 8, 9, 10, 11, 12] (fm_of hq9) (by decide) hq9 0 8 rfl rfl) rfl rfl hl.1 rfl (lv_room (Nat.le_of_ble_eq_true rfl)) dX6_parse_17 ⟨Nat.zero_le _, Nat.zero_le _⟩) hS (fun q _ h => hFc q h) hFc (fun r u9 t9 H1 locs ht hvm hw hB hz1 hk1 hS => ?_)
          obtain ⟨hP, hD⟩ := wjoin9 (wr := bFO k fo ((psU ts tl kf (0, V, vc, sp, fs) i).2.2.2.2)) (wf := bCT k tx sg tl fo va i ((rfE ts tl i ((psU ts tl kf (0, V, vc, sp, fs) i).1) ((psU ts tl kf (0, V, vc, sp, fs) i).2.1) ((psU ts tl kf (0, V, vc, sp, fs) i).2.2.1) ((psU ts tl kf (0, V, vc, sp, fs) i).2.2.2.1)).2.2.1) ((rfE ts tl i ((psU ts tl kf (0, V, vc, sp, fs) i).1) ((psU ts tl kf (0, V, vc, sp, fs) i).2.1) ((psU ts tl kf (0, V, vc, sp, fs) i).2.2.1) ((psU ts tl kf (0, V, vc, sp, fs) i).2.2.2.1)).2.1) ++ bC60 k sg ts ++ bGI k va gi ++ bG3 k gi ((rfE ts tl i ((psU ts tl kf (0, V, vc, sp, fs) i).1) ((psU ts tl kf (0, V, vc, sp, fs) i).2.1) ((psU ts tl kf (0, V, vc, sp, fs) i).2.2.1) ((psU ts tl kf (0, V, vc, sp, fs) i).2.2.2.1)).2.2.2) ++ bFO k fo ((psU ts tl kf (0, V, vc, sp, fs) i).2.2.2.2)) hP hD [0, 1, 2, 3, 4, 5, 6, 7, 8, 9, 10, 11, 12] [13] [1, 2, 3, 4, 5, 6, 7, 8, 9, 10, 11, 12, 13, 0] hq9 rfl (by decide) (by decide) hk1 hFc hB ht rfl (by decide)
          subst hw
          clear hB hk1 hz1 hvm hFc hq9
          clear ht
          clear t9
          generalize H1 = H at hP hS ⊢
          refine lv_tope (v2 := .ref (kf (rfN ts tl i ((psU ts tl kf (0, V, vc, sp, fs) i).1) ((psU ts tl kf (0, V, vc, sp, fs) i).2.1) ((psU ts tl kf (0, V, vc, sp, fs) i).2.2.1) ((psU ts tl kf (0, V, vc, sp, fs) i).2.2.2.1)))) rfl ?_
          refine lv_astore_n (lv' := [(3, .ref (kf (rfN ts tl i ((psU ts tl kf (0, V, vc, sp, fs) i).1) ((psU ts tl kf (0, V, vc, sp, fs) i).2.1) ((psU ts tl kf (0, V, vc, sp, fs) i).2.2.1) ((psU ts tl kf (0, V, vc, sp, fs) i).2.2.2.1)))), (0, .ref tx), (1, .int (nI ((psU ts tl kf (0, V, vc, sp, fs) i).1))), (2, .int (nI i))]) hx hb dX6_parse_20 rfl hl (by decide) rfl (fun ls hl => ?_)
          refine lv_aload_n hx hb dX6_parse_21 rfl (lv_at hl 0 rfl) ?_
          refine lv_ifnonnull (tgt := 30) hx hb dX6_parse_22 (by decide) ?_
          refine lv_aload_n hx hb dX6_parse_30 rfl (lv_at hl 1 rfl) ?_
          refine va_get (D := D) (ci := 8) (v := .ref fo) (C := RX6) (T := TX6) (N := 7) hx hb hts kc_RX6 hown hK hP 0 rfl rfl 2 (by decide) k_fieldLink_21 (fun _ h9 => h9) rfl dX6_parse_31 ?_
          refine lv_iload_n hx hb dX6_parse_34 rfl (lv_at hl 3 rfl) ?_
          refine lv_aload_n hx hb dX6_parse_35 rfl (lv_at hl 0 rfl) ?_
          refine fo_st hx hb hK hP hD hS 13 7 rfl rfl (zRecF hKC (i := (rfN ts tl i ((psU ts tl kf (0, V, vc, sp, fs) i).1) ((psU ts tl kf (0, V, vc, sp, fs) i).2.1) ((psU ts tl kf (0, V, vc, sp, fs) i).2.2.1) ((psU ts tl kf (0, V, vc, sp, fs) i).2.2.2.1))) (by omega) hS) i (by omega) (by decide) (bCT k tx sg tl fo va i ((rfE ts tl i ((psU ts tl kf (0, V, vc, sp, fs) i).1) ((psU ts tl kf (0, V, vc, sp, fs) i).2.1) ((psU ts tl kf (0, V, vc, sp, fs) i).2.2.1) ((psU ts tl kf (0, V, vc, sp, fs) i).2.2.2.1)).2.2.1) ((rfE ts tl i ((psU ts tl kf (0, V, vc, sp, fs) i).1) ((psU ts tl kf (0, V, vc, sp, fs) i).2.1) ((psU ts tl kf (0, V, vc, sp, fs) i).2.2.1) ((psU ts tl kf (0, V, vc, sp, fs) i).2.2.2.1)).2.1) ++ bC60 k sg ts ++ bGI k va gi ++ bG3 k gi ((rfE ts tl i ((psU ts tl kf (0, V, vc, sp, fs) i).1) ((psU ts tl kf (0, V, vc, sp, fs) i).2.1) ((psU ts tl kf (0, V, vc, sp, fs) i).2.2.1) ((psU ts tl kf (0, V, vc, sp, fs) i).2.2.2.1)).2.2.2) ++ bFO k fo (va_up ((psU ts tl kf (0, V, vc, sp, fs) i).2.2.2.2) i (some (kf (rfN ts tl i ((psU ts tl kf (0, V, vc, sp, fs) i).1) ((psU ts tl kf (0, V, vc, sp, fs) i).2.1) ((psU ts tl kf (0, V, vc, sp, fs) i).2.2.1) ((psU ts tl kf (0, V, vc, sp, fs) i).2.2.2.1)))))) rfl dX6_parse_36 (fun H locs hP hD hS => ?_)
          refine lv_aload_n hx hb dX6_parse_37 rfl (lv_at hl 1 rfl) ?_
          refine va_get (D := D) (ci := 8) (v := .int (nI ((rfE ts tl i ((psU ts tl kf (0, V, vc, sp, fs) i).1) ((psU ts tl kf (0, V, vc, sp, fs) i).2.1) ((psU ts tl kf (0, V, vc, sp, fs) i).2.2.1) ((psU ts tl kf (0, V, vc, sp, fs) i).2.2.2.1)).2.1))) (C := RX6) (T := TX6) (N := 7) hx hb hts kc_RX6 hown hK hP 0 rfl rfl 6 (by decide) k_fieldLink_36 (fun _ h9 => h9) rfl dX6_parse_38 ?_
          refine lv_aload_n hx hb dX6_parse_41 rfl (lv_at hl 1 rfl) ?_
          refine va_get (D := D) (ci := 8) (v := .int (nI tl)) (C := RX6) (T := TX6) (N := 7) hx hb hts kc_RX6 hown hK hP 0 rfl rfl 1 (by decide) k_fieldLink_15 (fun _ h9 => h9) rfl dX6_parse_42 ?_
          refine lv_icmp_lt (tgt := 57) hx hb dX6_parse_45 (by decide) (fun c_7 => ?_) (fun c_7 => ?_)
          · skip
            have c_7 : ((rfE ts tl i ((psU ts tl kf (0, V, vc, sp, fs) i).1) ((psU ts tl kf (0, V, vc, sp, fs) i).2.1) ((psU ts tl kf (0, V, vc, sp, fs) i).2.2.1) ((psU ts tl kf (0, V, vc, sp, fs) i).2.2.2.1)).2.1) < tl := (nI_ltI (a := (rfE ts tl i ((psU ts tl kf (0, V, vc, sp, fs) i).1) ((psU ts tl kf (0, V, vc, sp, fs) i).2.1) ((psU ts tl kf (0, V, vc, sp, fs) i).2.2.1) ((psU ts tl kf (0, V, vc, sp, fs) i).2.2.2.1)).2.1) (b := tl) (by omega) (by omega)).mp c_7
            refine lv_aload_n hx hb dX6_parse_57 rfl (lv_at hl 1 rfl) ?_
            refine va_get (D := D) (ci := 8) (v := .ref sg) (C := RX6) (T := TX6) (N := 7) hx hb hts kc_RX6 hown hK hP 0 rfl rfl 0 (by decide) k_fieldLink_9 (fun _ h9 => h9) rfl dX6_parse_58 ?_
            refine lv_aload_n hx hb dX6_parse_61 rfl (lv_at hl 1 rfl) ?_
            refine va_get (D := D) (ci := 8) (v := .int (nI ((rfE ts tl i ((psU ts tl kf (0, V, vc, sp, fs) i).1) ((psU ts tl kf (0, V, vc, sp, fs) i).2.1) ((psU ts tl kf (0, V, vc, sp, fs) i).2.2.1) ((psU ts tl kf (0, V, vc, sp, fs) i).2.2.2.1)).2.1))) (C := RX6) (T := TX6) (N := 7) hx hb hts kc_RX6 hown hK hP 0 rfl rfl 6 (by decide) k_fieldLink_36 (fun _ h9 => h9) rfl dX6_parse_62 ?_
            refine ca_ld hx hb hK hP 1 rfl ((rfE ts tl i ((psU ts tl kf (0, V, vc, sp, fs) i).1) ((psU ts tl kf (0, V, vc, sp, fs) i).2.1) ((psU ts tl kf (0, V, vc, sp, fs) i).2.2.1) ((psU ts tl kf (0, V, vc, sp, fs) i).2.2.2.1)).2.1) (by omega) (by decide) dX6_parse_65 ?_
            refine lv_bipush (v := 59) hx hb dX6_parse_66 (by decide) ?_
            refine lv_icmp_eq (tgt := 76) hx hb dX6_parse_68 (by decide) (fun c_8 => ?_) (fun c_8 => ?_)
            · skip
              refine lv_aload_n hx hb dX6_parse_76 rfl (lv_at hl 1 rfl) ?_
              refine va_get (D := D) (ci := 8) (v := .int (nI ((rfE ts tl i ((psU ts tl kf (0, V, vc, sp, fs) i).1) ((psU ts tl kf (0, V, vc, sp, fs) i).2.1) ((psU ts tl kf (0, V, vc, sp, fs) i).2.2.1) ((psU ts tl kf (0, V, vc, sp, fs) i).2.2.2.1)).2.1))) (C := RX6) (T := TX6) (N := 7) hx hb hts kc_RX6 hown hK hP 0 rfl rfl 6 (by decide) k_fieldLink_36 (fun _ h9 => h9) rfl dX6_parse_77 ?_
              refine lv_iconst (v := 1) hx hb dX6_parse_80 (by decide) ?_
              refine ni_add hx hb ((rfE ts tl i ((psU ts tl kf (0, V, vc, sp, fs) i).1) ((psU ts tl kf (0, V, vc, sp, fs) i).2.1) ((psU ts tl kf (0, V, vc, sp, fs) i).2.2.1) ((psU ts tl kf (0, V, vc, sp, fs) i).2.2.2.1)).2.1) 1 dX6_parse_81 ?_
              refine lv_istore_n (lv' := [(1, .int (nI (((rfE ts tl i ((psU ts tl kf (0, V, vc, sp, fs) i).1) ((psU ts tl kf (0, V, vc, sp, fs) i).2.1) ((psU ts tl kf (0, V, vc, sp, fs) i).2.2.1) ((psU ts tl kf (0, V, vc, sp, fs) i).2.2.2.1)).2.1) + 1))), (3, .ref (kf (rfN ts tl i ((psU ts tl kf (0, V, vc, sp, fs) i).1) ((psU ts tl kf (0, V, vc, sp, fs) i).2.1) ((psU ts tl kf (0, V, vc, sp, fs) i).2.2.1) ((psU ts tl kf (0, V, vc, sp, fs) i).2.2.2.1)))), (0, .ref tx), (2, .int (nI i))]) hx hb dX6_parse_82 rfl hl (by decide) rfl (fun ls hl => ?_)
              refine lv_iinc (v := nI (i + 1)) (lv' := [(2, .int (nI (i + 1))), (1, .int (nI (((rfE ts tl i ((psU ts tl kf (0, V, vc, sp, fs) i).1) ((psU ts tl kf (0, V, vc, sp, fs) i).2.1) ((psU ts tl kf (0, V, vc, sp, fs) i).2.2.1) ((psU ts tl kf (0, V, vc, sp, fs) i).2.2.2.1)).2.1) + 1))), (3, .ref (kf (rfN ts tl i ((psU ts tl kf (0, V, vc, sp, fs) i).1) ((psU ts tl kf (0, V, vc, sp, fs) i).2.1) ((psU ts tl kf (0, V, vc, sp, fs) i).2.2.1) ((psU ts tl kf (0, V, vc, sp, fs) i).2.2.2.1)))), (0, .ref tx)]) hx hb dX6_parse_83 hl (k := 3) rfl (nI_inc i) (by decide) rfl (fun ls hl => ?_)
              refine lv_goto (tgt := 4) hx hb dX6_parse_86 (by decide) ?_
              have e_9 : (nI (((rfE ts tl i ((psU ts tl kf (0, V, vc, sp, fs) i).1) ((psU ts tl kf (0, V, vc, sp, fs) i).2.1) ((psU ts tl kf (0, V, vc, sp, fs) i).2.2.1) ((psU ts tl kf (0, V, vc, sp, fs) i).2.2.2.1)).2.1) + 1) : Int32) = nI ((psU ts tl kf (0, V, vc, sp, fs) (i + 1)).1) := by first | (with_reducible rfl) | (rfl)
              have e_10 : (i : Nat) = pcm cm (i + 1) := by first | (with_reducible rfl) | (rfl)
              have hP := Eq.mp (congrArg (fun z9 => va_P D vwCl (bCT k tx sg tl fo va z9 ((rfE ts tl i ((psU ts tl kf (0, V, vc, sp, fs) i).1) ((psU ts tl kf (0, V, vc, sp, fs) i).2.1) ((psU ts tl kf (0, V, vc, sp, fs) i).2.2.1) ((psU ts tl kf (0, V, vc, sp, fs) i).2.2.2.1)).2.2.1) ((rfE ts tl i ((psU ts tl kf (0, V, vc, sp, fs) i).1) ((psU ts tl kf (0, V, vc, sp, fs) i).2.1) ((psU ts tl kf (0, V, vc, sp, fs) i).2.2.1) ((psU ts tl kf (0, V, vc, sp, fs) i).2.2.2.1)).2.1) ++ bC60 k sg ts ++ bGI k va gi ++ bG3 k gi ((rfE ts tl i ((psU ts tl kf (0, V, vc, sp, fs) i).1) ((psU ts tl kf (0, V, vc, sp, fs) i).2.1) ((psU ts tl kf (0, V, vc, sp, fs) i).2.2.1) ((psU ts tl kf (0, V, vc, sp, fs) i).2.2.2.1)).2.2.2) ++ bFO k fo (va_up ((psU ts tl kf (0, V, vc, sp, fs) i).2.2.2.2) i (some (kf (rfN ts tl i ((psU ts tl kf (0, V, vc, sp, fs) i).1) ((psU ts tl kf (0, V, vc, sp, fs) i).2.1) ((psU ts tl kf (0, V, vc, sp, fs) i).2.2.1) ((psU ts tl kf (0, V, vc, sp, fs) i).2.2.2.1)))))) H) e_10) hP
              have hD := Eq.mp (congrArg (fun z9 => va_D A (bCT k tx sg tl fo va z9 ((rfE ts tl i ((psU ts tl kf (0, V, vc, sp, fs) i).1) ((psU ts tl kf (0, V, vc, sp, fs) i).2.1) ((psU ts tl kf (0, V, vc, sp, fs) i).2.2.1) ((psU ts tl kf (0, V, vc, sp, fs) i).2.2.2.1)).2.2.1) ((rfE ts tl i ((psU ts tl kf (0, V, vc, sp, fs) i).1) ((psU ts tl kf (0, V, vc, sp, fs) i).2.1) ((psU ts tl kf (0, V, vc, sp, fs) i).2.2.1) ((psU ts tl kf (0, V, vc, sp, fs) i).2.2.2.1)).2.1) ++ bC60 k sg ts ++ bGI k va gi ++ bG3 k gi ((rfE ts tl i ((psU ts tl kf (0, V, vc, sp, fs) i).1) ((psU ts tl kf (0, V, vc, sp, fs) i).2.1) ((psU ts tl kf (0, V, vc, sp, fs) i).2.2.1) ((psU ts tl kf (0, V, vc, sp, fs) i).2.2.2.1)).2.2.2) ++ bFO k fo (va_up ((psU ts tl kf (0, V, vc, sp, fs) i).2.2.2.2) i (some (kf (rfN ts tl i ((psU ts tl kf (0, V, vc, sp, fs) i).1) ((psU ts tl kf (0, V, vc, sp, fs) i).2.1) ((psU ts tl kf (0, V, vc, sp, fs) i).2.2.1) ((psU ts tl kf (0, V, vc, sp, fs) i).2.2.2.1))))))) e_10) hD
              have e_11 : ((rfE ts tl i ((psU ts tl kf (0, V, vc, sp, fs) i).1) ((psU ts tl kf (0, V, vc, sp, fs) i).2.1) ((psU ts tl kf (0, V, vc, sp, fs) i).2.2.1) ((psU ts tl kf (0, V, vc, sp, fs) i).2.2.2.1)).2.2.1 : Nat) = (psU ts tl kf (0, V, vc, sp, fs) (i + 1)).2.2.1 := by first | (with_reducible rfl) | (rfl)
              have hP := Eq.mp (congrArg (fun z9 => va_P D vwCl (bCT k tx sg tl fo va (pcm cm (i + 1)) z9 ((rfE ts tl i ((psU ts tl kf (0, V, vc, sp, fs) i).1) ((psU ts tl kf (0, V, vc, sp, fs) i).2.1) ((psU ts tl kf (0, V, vc, sp, fs) i).2.2.1) ((psU ts tl kf (0, V, vc, sp, fs) i).2.2.2.1)).2.1) ++ bC60 k sg ts ++ bGI k va gi ++ bG3 k gi ((rfE ts tl i ((psU ts tl kf (0, V, vc, sp, fs) i).1) ((psU ts tl kf (0, V, vc, sp, fs) i).2.1) ((psU ts tl kf (0, V, vc, sp, fs) i).2.2.1) ((psU ts tl kf (0, V, vc, sp, fs) i).2.2.2.1)).2.2.2) ++ bFO k fo (va_up ((psU ts tl kf (0, V, vc, sp, fs) i).2.2.2.2) i (some (kf (rfN ts tl i ((psU ts tl kf (0, V, vc, sp, fs) i).1) ((psU ts tl kf (0, V, vc, sp, fs) i).2.1) ((psU ts tl kf (0, V, vc, sp, fs) i).2.2.1) ((psU ts tl kf (0, V, vc, sp, fs) i).2.2.2.1)))))) H) e_11) hP
              have hD := Eq.mp (congrArg (fun z9 => va_D A (bCT k tx sg tl fo va (pcm cm (i + 1)) z9 ((rfE ts tl i ((psU ts tl kf (0, V, vc, sp, fs) i).1) ((psU ts tl kf (0, V, vc, sp, fs) i).2.1) ((psU ts tl kf (0, V, vc, sp, fs) i).2.2.1) ((psU ts tl kf (0, V, vc, sp, fs) i).2.2.2.1)).2.1) ++ bC60 k sg ts ++ bGI k va gi ++ bG3 k gi ((rfE ts tl i ((psU ts tl kf (0, V, vc, sp, fs) i).1) ((psU ts tl kf (0, V, vc, sp, fs) i).2.1) ((psU ts tl kf (0, V, vc, sp, fs) i).2.2.1) ((psU ts tl kf (0, V, vc, sp, fs) i).2.2.2.1)).2.2.2) ++ bFO k fo (va_up ((psU ts tl kf (0, V, vc, sp, fs) i).2.2.2.2) i (some (kf (rfN ts tl i ((psU ts tl kf (0, V, vc, sp, fs) i).1) ((psU ts tl kf (0, V, vc, sp, fs) i).2.1) ((psU ts tl kf (0, V, vc, sp, fs) i).2.2.1) ((psU ts tl kf (0, V, vc, sp, fs) i).2.2.2.1))))))) e_11) hD
              have e_12 : ((rfE ts tl i ((psU ts tl kf (0, V, vc, sp, fs) i).1) ((psU ts tl kf (0, V, vc, sp, fs) i).2.1) ((psU ts tl kf (0, V, vc, sp, fs) i).2.2.1) ((psU ts tl kf (0, V, vc, sp, fs) i).2.2.2.1)).2.1 : Nat) = (psU ts tl kf (0, V, vc, sp, fs) (i + 1)).2.2.2.1 := by first | (with_reducible rfl) | (rfl)
              have hP := Eq.mp (congrArg (fun z9 => va_P D vwCl (bCT k tx sg tl fo va (pcm cm (i + 1)) ((psU ts tl kf (0, V, vc, sp, fs) (i + 1)).2.2.1) z9 ++ bC60 k sg ts ++ bGI k va gi ++ bG3 k gi ((rfE ts tl i ((psU ts tl kf (0, V, vc, sp, fs) i).1) ((psU ts tl kf (0, V, vc, sp, fs) i).2.1) ((psU ts tl kf (0, V, vc, sp, fs) i).2.2.1) ((psU ts tl kf (0, V, vc, sp, fs) i).2.2.2.1)).2.2.2) ++ bFO k fo (va_up ((psU ts tl kf (0, V, vc, sp, fs) i).2.2.2.2) i (some (kf (rfN ts tl i ((psU ts tl kf (0, V, vc, sp, fs) i).1) ((psU ts tl kf (0, V, vc, sp, fs) i).2.1) ((psU ts tl kf (0, V, vc, sp, fs) i).2.2.1) ((psU ts tl kf (0, V, vc, sp, fs) i).2.2.2.1)))))) H) e_12) hP
              have hD := Eq.mp (congrArg (fun z9 => va_D A (bCT k tx sg tl fo va (pcm cm (i + 1)) ((psU ts tl kf (0, V, vc, sp, fs) (i + 1)).2.2.1) z9 ++ bC60 k sg ts ++ bGI k va gi ++ bG3 k gi ((rfE ts tl i ((psU ts tl kf (0, V, vc, sp, fs) i).1) ((psU ts tl kf (0, V, vc, sp, fs) i).2.1) ((psU ts tl kf (0, V, vc, sp, fs) i).2.2.1) ((psU ts tl kf (0, V, vc, sp, fs) i).2.2.2.1)).2.2.2) ++ bFO k fo (va_up ((psU ts tl kf (0, V, vc, sp, fs) i).2.2.2.2) i (some (kf (rfN ts tl i ((psU ts tl kf (0, V, vc, sp, fs) i).1) ((psU ts tl kf (0, V, vc, sp, fs) i).2.1) ((psU ts tl kf (0, V, vc, sp, fs) i).2.2.1) ((psU ts tl kf (0, V, vc, sp, fs) i).2.2.2.1))))))) e_12) hD
              have e_13 : ((rfE ts tl i ((psU ts tl kf (0, V, vc, sp, fs) i).1) ((psU ts tl kf (0, V, vc, sp, fs) i).2.1) ((psU ts tl kf (0, V, vc, sp, fs) i).2.2.1) ((psU ts tl kf (0, V, vc, sp, fs) i).2.2.2.1)).2.2.2 : Nat → Nat → Int32) = (psU ts tl kf (0, V, vc, sp, fs) (i + 1)).2.1 := by first | (with_reducible rfl) | (rfl)
              have hP := Eq.mp (congrArg (fun z9 => va_P D vwCl (bCT k tx sg tl fo va (pcm cm (i + 1)) ((psU ts tl kf (0, V, vc, sp, fs) (i + 1)).2.2.1) ((psU ts tl kf (0, V, vc, sp, fs) (i + 1)).2.2.2.1) ++ bC60 k sg ts ++ bGI k va gi ++ bG3 k gi z9 ++ bFO k fo (va_up ((psU ts tl kf (0, V, vc, sp, fs) i).2.2.2.2) i (some (kf (rfN ts tl i ((psU ts tl kf (0, V, vc, sp, fs) i).1) ((psU ts tl kf (0, V, vc, sp, fs) i).2.1) ((psU ts tl kf (0, V, vc, sp, fs) i).2.2.1) ((psU ts tl kf (0, V, vc, sp, fs) i).2.2.2.1)))))) H) e_13) hP
              have hD := Eq.mp (congrArg (fun z9 => va_D A (bCT k tx sg tl fo va (pcm cm (i + 1)) ((psU ts tl kf (0, V, vc, sp, fs) (i + 1)).2.2.1) ((psU ts tl kf (0, V, vc, sp, fs) (i + 1)).2.2.2.1) ++ bC60 k sg ts ++ bGI k va gi ++ bG3 k gi z9 ++ bFO k fo (va_up ((psU ts tl kf (0, V, vc, sp, fs) i).2.2.2.2) i (some (kf (rfN ts tl i ((psU ts tl kf (0, V, vc, sp, fs) i).1) ((psU ts tl kf (0, V, vc, sp, fs) i).2.1) ((psU ts tl kf (0, V, vc, sp, fs) i).2.2.1) ((psU ts tl kf (0, V, vc, sp, fs) i).2.2.2.1))))))) e_13) hD
              have e_14 : (va_up ((psU ts tl kf (0, V, vc, sp, fs) i).2.2.2.2) i (some (kf (rfN ts tl i ((psU ts tl kf (0, V, vc, sp, fs) i).1) ((psU ts tl kf (0, V, vc, sp, fs) i).2.1) ((psU ts tl kf (0, V, vc, sp, fs) i).2.2.1) ((psU ts tl kf (0, V, vc, sp, fs) i).2.2.2.1)))) : Nat → Option Nat) = (psU ts tl kf (0, V, vc, sp, fs) (i + 1)).2.2.2.2 := by first | (with_reducible rfl) | (rfl)
              have hP := Eq.mp (congrArg (fun z9 => va_P D vwCl (bCT k tx sg tl fo va (pcm cm (i + 1)) ((psU ts tl kf (0, V, vc, sp, fs) (i + 1)).2.2.1) ((psU ts tl kf (0, V, vc, sp, fs) (i + 1)).2.2.2.1) ++ bC60 k sg ts ++ bGI k va gi ++ bG3 k gi ((psU ts tl kf (0, V, vc, sp, fs) (i + 1)).2.1) ++ bFO k fo z9) H) e_14) hP
              have hD := Eq.mp (congrArg (fun z9 => va_D A (bCT k tx sg tl fo va (pcm cm (i + 1)) ((psU ts tl kf (0, V, vc, sp, fs) (i + 1)).2.2.1) ((psU ts tl kf (0, V, vc, sp, fs) (i + 1)).2.2.2.1) ++ bC60 k sg ts ++ bGI k va gi ++ bG3 k gi ((psU ts tl kf (0, V, vc, sp, fs) (i + 1)).2.1) ++ bFO k fo z9)) e_14) hD
              exact ih_4 (i + 1) (by omega) (fun c hc => (Nat.lt_succ_iff_lt_or_eq.mp hc).elim (ha c) (fun e => by rw [e]; exact qsG_t hfd9 (by omega) (by assumption))) (by omega) ls _ _ hP hD hS (lv_one hl 3 rfl rfl (lv_one hl 1 rfl (congrArg Value.int e_9) (lv_one hl 0 rfl rfl (lv_nil hl))))
            · skip
              have hN9 : psN ts tl kf (0, V, vc, sp, fs) = i := psN_at ha (by first | exact qsG_f1 hfd9 | exact qsG_f2 (by omega) | exact qsG_f3 (by assumption)) (by omega)
              refine lv_aload_n hx hb dX6_parse_71 rfl (lv_at hl 1 rfl) ?_
              refine va_get (D := D) (ci := 8) (v := .int (nI ((rfE ts tl i ((psU ts tl kf (0, V, vc, sp, fs) i).1) ((psU ts tl kf (0, V, vc, sp, fs) i).2.1) ((psU ts tl kf (0, V, vc, sp, fs) i).2.2.1) ((psU ts tl kf (0, V, vc, sp, fs) i).2.2.2.1)).2.1))) (C := RX6) (T := TX6) (N := 7) hx hb hts kc_RX6 hown hK hP 0 rfl rfl 6 (by decide) k_fieldLink_36 (fun _ h9 => h9) rfl dX6_parse_72 ?_
              have e_15 : (i : Nat) = (psR ts tl kf (0, V, vc, sp, fs)).2.1 := by first | (with_reducible rfl) | (rw [psR_at hN9]; unfold psE; rw [if_neg (show ¬ i = 10 by omega), if_pos hfd9, if_pos (show (rfE ts tl i (psU ts tl kf (0, V, vc, sp, fs) i).1 (psU ts tl kf (0, V, vc, sp, fs) i).2.1 (psU ts tl kf (0, V, vc, sp, fs) i).2.2.1 (psU ts tl kf (0, V, vc, sp, fs) i).2.2.2.1).2.1 < tl by omega)] <;> rfl)
              have hP := Eq.mp (congrArg (fun z9 => va_P D vwCl (bCT k tx sg tl fo va z9 ((rfE ts tl i ((psU ts tl kf (0, V, vc, sp, fs) i).1) ((psU ts tl kf (0, V, vc, sp, fs) i).2.1) ((psU ts tl kf (0, V, vc, sp, fs) i).2.2.1) ((psU ts tl kf (0, V, vc, sp, fs) i).2.2.2.1)).2.2.1) ((rfE ts tl i ((psU ts tl kf (0, V, vc, sp, fs) i).1) ((psU ts tl kf (0, V, vc, sp, fs) i).2.1) ((psU ts tl kf (0, V, vc, sp, fs) i).2.2.1) ((psU ts tl kf (0, V, vc, sp, fs) i).2.2.2.1)).2.1) ++ bC60 k sg ts ++ bGI k va gi ++ bG3 k gi ((rfE ts tl i ((psU ts tl kf (0, V, vc, sp, fs) i).1) ((psU ts tl kf (0, V, vc, sp, fs) i).2.1) ((psU ts tl kf (0, V, vc, sp, fs) i).2.2.1) ((psU ts tl kf (0, V, vc, sp, fs) i).2.2.2.1)).2.2.2) ++ bFO k fo (va_up ((psU ts tl kf (0, V, vc, sp, fs) i).2.2.2.2) i (some (kf (rfN ts tl i ((psU ts tl kf (0, V, vc, sp, fs) i).1) ((psU ts tl kf (0, V, vc, sp, fs) i).2.1) ((psU ts tl kf (0, V, vc, sp, fs) i).2.2.1) ((psU ts tl kf (0, V, vc, sp, fs) i).2.2.2.1)))))) H) e_15) hP
              have hD := Eq.mp (congrArg (fun z9 => va_D A (bCT k tx sg tl fo va z9 ((rfE ts tl i ((psU ts tl kf (0, V, vc, sp, fs) i).1) ((psU ts tl kf (0, V, vc, sp, fs) i).2.1) ((psU ts tl kf (0, V, vc, sp, fs) i).2.2.1) ((psU ts tl kf (0, V, vc, sp, fs) i).2.2.2.1)).2.2.1) ((rfE ts tl i ((psU ts tl kf (0, V, vc, sp, fs) i).1) ((psU ts tl kf (0, V, vc, sp, fs) i).2.1) ((psU ts tl kf (0, V, vc, sp, fs) i).2.2.1) ((psU ts tl kf (0, V, vc, sp, fs) i).2.2.2.1)).2.1) ++ bC60 k sg ts ++ bGI k va gi ++ bG3 k gi ((rfE ts tl i ((psU ts tl kf (0, V, vc, sp, fs) i).1) ((psU ts tl kf (0, V, vc, sp, fs) i).2.1) ((psU ts tl kf (0, V, vc, sp, fs) i).2.2.1) ((psU ts tl kf (0, V, vc, sp, fs) i).2.2.2.1)).2.2.2) ++ bFO k fo (va_up ((psU ts tl kf (0, V, vc, sp, fs) i).2.2.2.2) i (some (kf (rfN ts tl i ((psU ts tl kf (0, V, vc, sp, fs) i).1) ((psU ts tl kf (0, V, vc, sp, fs) i).2.1) ((psU ts tl kf (0, V, vc, sp, fs) i).2.2.1) ((psU ts tl kf (0, V, vc, sp, fs) i).2.2.2.1))))))) e_15) hD
              have e_16 : ((rfE ts tl i ((psU ts tl kf (0, V, vc, sp, fs) i).1) ((psU ts tl kf (0, V, vc, sp, fs) i).2.1) ((psU ts tl kf (0, V, vc, sp, fs) i).2.2.1) ((psU ts tl kf (0, V, vc, sp, fs) i).2.2.2.1)).2.2.1 : Nat) = (psR ts tl kf (0, V, vc, sp, fs)).2.2.2.1 := by first | (with_reducible rfl) | (rw [psR_at hN9]; unfold psE; rw [if_neg (show ¬ i = 10 by omega), if_pos hfd9, if_pos (show (rfE ts tl i (psU ts tl kf (0, V, vc, sp, fs) i).1 (psU ts tl kf (0, V, vc, sp, fs) i).2.1 (psU ts tl kf (0, V, vc, sp, fs) i).2.2.1 (psU ts tl kf (0, V, vc, sp, fs) i).2.2.2.1).2.1 < tl by omega)] <;> rfl)
              have hP := Eq.mp (congrArg (fun z9 => va_P D vwCl (bCT k tx sg tl fo va ((psR ts tl kf (0, V, vc, sp, fs)).2.1) z9 ((rfE ts tl i ((psU ts tl kf (0, V, vc, sp, fs) i).1) ((psU ts tl kf (0, V, vc, sp, fs) i).2.1) ((psU ts tl kf (0, V, vc, sp, fs) i).2.2.1) ((psU ts tl kf (0, V, vc, sp, fs) i).2.2.2.1)).2.1) ++ bC60 k sg ts ++ bGI k va gi ++ bG3 k gi ((rfE ts tl i ((psU ts tl kf (0, V, vc, sp, fs) i).1) ((psU ts tl kf (0, V, vc, sp, fs) i).2.1) ((psU ts tl kf (0, V, vc, sp, fs) i).2.2.1) ((psU ts tl kf (0, V, vc, sp, fs) i).2.2.2.1)).2.2.2) ++ bFO k fo (va_up ((psU ts tl kf (0, V, vc, sp, fs) i).2.2.2.2) i (some (kf (rfN ts tl i ((psU ts tl kf (0, V, vc, sp, fs) i).1) ((psU ts tl kf (0, V, vc, sp, fs) i).2.1) ((psU ts tl kf (0, V, vc, sp, fs) i).2.2.1) ((psU ts tl kf (0, V, vc, sp, fs) i).2.2.2.1)))))) H) e_16) hP
              have hD := Eq.mp (congrArg (fun z9 => va_D A (bCT k tx sg tl fo va ((psR ts tl kf (0, V, vc, sp, fs)).2.1) z9 ((rfE ts tl i ((psU ts tl kf (0, V, vc, sp, fs) i).1) ((psU ts tl kf (0, V, vc, sp, fs) i).2.1) ((psU ts tl kf (0, V, vc, sp, fs) i).2.2.1) ((psU ts tl kf (0, V, vc, sp, fs) i).2.2.2.1)).2.1) ++ bC60 k sg ts ++ bGI k va gi ++ bG3 k gi ((rfE ts tl i ((psU ts tl kf (0, V, vc, sp, fs) i).1) ((psU ts tl kf (0, V, vc, sp, fs) i).2.1) ((psU ts tl kf (0, V, vc, sp, fs) i).2.2.1) ((psU ts tl kf (0, V, vc, sp, fs) i).2.2.2.1)).2.2.2) ++ bFO k fo (va_up ((psU ts tl kf (0, V, vc, sp, fs) i).2.2.2.2) i (some (kf (rfN ts tl i ((psU ts tl kf (0, V, vc, sp, fs) i).1) ((psU ts tl kf (0, V, vc, sp, fs) i).2.1) ((psU ts tl kf (0, V, vc, sp, fs) i).2.2.1) ((psU ts tl kf (0, V, vc, sp, fs) i).2.2.2.1))))))) e_16) hD
              have e_17 : ((rfE ts tl i ((psU ts tl kf (0, V, vc, sp, fs) i).1) ((psU ts tl kf (0, V, vc, sp, fs) i).2.1) ((psU ts tl kf (0, V, vc, sp, fs) i).2.2.1) ((psU ts tl kf (0, V, vc, sp, fs) i).2.2.2.1)).2.1 : Nat) = (psR ts tl kf (0, V, vc, sp, fs)).2.2.2.2.1 := by first | (with_reducible rfl) | (rw [psR_at hN9]; unfold psE; rw [if_neg (show ¬ i = 10 by omega), if_pos hfd9, if_pos (show (rfE ts tl i (psU ts tl kf (0, V, vc, sp, fs) i).1 (psU ts tl kf (0, V, vc, sp, fs) i).2.1 (psU ts tl kf (0, V, vc, sp, fs) i).2.2.1 (psU ts tl kf (0, V, vc, sp, fs) i).2.2.2.1).2.1 < tl by omega)] <;> rfl)
              have hP := Eq.mp (congrArg (fun z9 => va_P D vwCl (bCT k tx sg tl fo va ((psR ts tl kf (0, V, vc, sp, fs)).2.1) ((psR ts tl kf (0, V, vc, sp, fs)).2.2.2.1) z9 ++ bC60 k sg ts ++ bGI k va gi ++ bG3 k gi ((rfE ts tl i ((psU ts tl kf (0, V, vc, sp, fs) i).1) ((psU ts tl kf (0, V, vc, sp, fs) i).2.1) ((psU ts tl kf (0, V, vc, sp, fs) i).2.2.1) ((psU ts tl kf (0, V, vc, sp, fs) i).2.2.2.1)).2.2.2) ++ bFO k fo (va_up ((psU ts tl kf (0, V, vc, sp, fs) i).2.2.2.2) i (some (kf (rfN ts tl i ((psU ts tl kf (0, V, vc, sp, fs) i).1) ((psU ts tl kf (0, V, vc, sp, fs) i).2.1) ((psU ts tl kf (0, V, vc, sp, fs) i).2.2.1) ((psU ts tl kf (0, V, vc, sp, fs) i).2.2.2.1)))))) H) e_17) hP
              have hD := Eq.mp (congrArg (fun z9 => va_D A (bCT k tx sg tl fo va ((psR ts tl kf (0, V, vc, sp, fs)).2.1) ((psR ts tl kf (0, V, vc, sp, fs)).2.2.2.1) z9 ++ bC60 k sg ts ++ bGI k va gi ++ bG3 k gi ((rfE ts tl i ((psU ts tl kf (0, V, vc, sp, fs) i).1) ((psU ts tl kf (0, V, vc, sp, fs) i).2.1) ((psU ts tl kf (0, V, vc, sp, fs) i).2.2.1) ((psU ts tl kf (0, V, vc, sp, fs) i).2.2.2.1)).2.2.2) ++ bFO k fo (va_up ((psU ts tl kf (0, V, vc, sp, fs) i).2.2.2.2) i (some (kf (rfN ts tl i ((psU ts tl kf (0, V, vc, sp, fs) i).1) ((psU ts tl kf (0, V, vc, sp, fs) i).2.1) ((psU ts tl kf (0, V, vc, sp, fs) i).2.2.1) ((psU ts tl kf (0, V, vc, sp, fs) i).2.2.2.1))))))) e_17) hD
              have e_18 : ((rfE ts tl i ((psU ts tl kf (0, V, vc, sp, fs) i).1) ((psU ts tl kf (0, V, vc, sp, fs) i).2.1) ((psU ts tl kf (0, V, vc, sp, fs) i).2.2.1) ((psU ts tl kf (0, V, vc, sp, fs) i).2.2.2.1)).2.2.2 : Nat → Nat → Int32) = (psR ts tl kf (0, V, vc, sp, fs)).2.2.1 := by first | (with_reducible rfl) | (rw [psR_at hN9]; unfold psE; rw [if_neg (show ¬ i = 10 by omega), if_pos hfd9, if_pos (show (rfE ts tl i (psU ts tl kf (0, V, vc, sp, fs) i).1 (psU ts tl kf (0, V, vc, sp, fs) i).2.1 (psU ts tl kf (0, V, vc, sp, fs) i).2.2.1 (psU ts tl kf (0, V, vc, sp, fs) i).2.2.2.1).2.1 < tl by omega)] <;> rfl)
              have hP := Eq.mp (congrArg (fun z9 => va_P D vwCl (bCT k tx sg tl fo va ((psR ts tl kf (0, V, vc, sp, fs)).2.1) ((psR ts tl kf (0, V, vc, sp, fs)).2.2.2.1) ((psR ts tl kf (0, V, vc, sp, fs)).2.2.2.2.1) ++ bC60 k sg ts ++ bGI k va gi ++ bG3 k gi z9 ++ bFO k fo (va_up ((psU ts tl kf (0, V, vc, sp, fs) i).2.2.2.2) i (some (kf (rfN ts tl i ((psU ts tl kf (0, V, vc, sp, fs) i).1) ((psU ts tl kf (0, V, vc, sp, fs) i).2.1) ((psU ts tl kf (0, V, vc, sp, fs) i).2.2.1) ((psU ts tl kf (0, V, vc, sp, fs) i).2.2.2.1)))))) H) e_18) hP
              have hD := Eq.mp (congrArg (fun z9 => va_D A (bCT k tx sg tl fo va ((psR ts tl kf (0, V, vc, sp, fs)).2.1) ((psR ts tl kf (0, V, vc, sp, fs)).2.2.2.1) ((psR ts tl kf (0, V, vc, sp, fs)).2.2.2.2.1) ++ bC60 k sg ts ++ bGI k va gi ++ bG3 k gi z9 ++ bFO k fo (va_up ((psU ts tl kf (0, V, vc, sp, fs) i).2.2.2.2) i (some (kf (rfN ts tl i ((psU ts tl kf (0, V, vc, sp, fs) i).1) ((psU ts tl kf (0, V, vc, sp, fs) i).2.1) ((psU ts tl kf (0, V, vc, sp, fs) i).2.2.1) ((psU ts tl kf (0, V, vc, sp, fs) i).2.2.2.1))))))) e_18) hD
              have e_19 : (va_up ((psU ts tl kf (0, V, vc, sp, fs) i).2.2.2.2) i (some (kf (rfN ts tl i ((psU ts tl kf (0, V, vc, sp, fs) i).1) ((psU ts tl kf (0, V, vc, sp, fs) i).2.1) ((psU ts tl kf (0, V, vc, sp, fs) i).2.2.1) ((psU ts tl kf (0, V, vc, sp, fs) i).2.2.2.1)))) : Nat → Option Nat) = (psR ts tl kf (0, V, vc, sp, fs)).2.2.2.2.2 := by first | (with_reducible rfl) | (rw [psR_at hN9]; unfold psE; rw [if_neg (show ¬ i = 10 by omega), if_pos hfd9, if_pos (show (rfE ts tl i (psU ts tl kf (0, V, vc, sp, fs) i).1 (psU ts tl kf (0, V, vc, sp, fs) i).2.1 (psU ts tl kf (0, V, vc, sp, fs) i).2.2.1 (psU ts tl kf (0, V, vc, sp, fs) i).2.2.2.1).2.1 < tl by omega)] <;> rfl)
              have hP := Eq.mp (congrArg (fun z9 => va_P D vwCl (bCT k tx sg tl fo va ((psR ts tl kf (0, V, vc, sp, fs)).2.1) ((psR ts tl kf (0, V, vc, sp, fs)).2.2.2.1) ((psR ts tl kf (0, V, vc, sp, fs)).2.2.2.2.1) ++ bC60 k sg ts ++ bGI k va gi ++ bG3 k gi ((psR ts tl kf (0, V, vc, sp, fs)).2.2.1) ++ bFO k fo z9) H) e_19) hP
              have hD := Eq.mp (congrArg (fun z9 => va_D A (bCT k tx sg tl fo va ((psR ts tl kf (0, V, vc, sp, fs)).2.1) ((psR ts tl kf (0, V, vc, sp, fs)).2.2.2.1) ((psR ts tl kf (0, V, vc, sp, fs)).2.2.2.2.1) ++ bC60 k sg ts ++ bGI k va gi ++ bG3 k gi ((psR ts tl kf (0, V, vc, sp, fs)).2.2.1) ++ bFO k fo z9)) e_19) hD
              exact W.iret (v := nI ((rfE ts tl i ((psU ts tl kf (0, V, vc, sp, fs) i).1) ((psU ts tl kf (0, V, vc, sp, fs) i).2.1) ((psU ts tl kf (0, V, vc, sp, fs) i).2.2.1) ((psU ts tl kf (0, V, vc, sp, fs) i).2.2.2.1)).2.1)) hx hb hr (fun t9 ht hW => ⟨⟨_, (), rfl, (by rw [psR_at hN9]; unfold psE; rw [if_neg (show ¬ i = 10 by omega), if_pos hfd9, if_pos (show (rfE ts tl i (psU ts tl kf (0, V, vc, sp, fs) i).1 (psU ts tl kf (0, V, vc, sp, fs) i).2.1 (psU ts tl kf (0, V, vc, sp, fs) i).2.2.1 (psU ts tl kf (0, V, vc, sp, fs) i).2.2.2.1).2.1 < tl by omega)] <;> rfl), ⟨by rw [ht]; exact hP, va_K.moved hW.alike hK, hD⟩⟩, hS.F ht⟩) hS.2.2 dX6_parse_75 hlocks
          · skip
            have c_7 : ¬ ((rfE ts tl i ((psU ts tl kf (0, V, vc, sp, fs) i).1) ((psU ts tl kf (0, V, vc, sp, fs) i).2.1) ((psU ts tl kf (0, V, vc, sp, fs) i).2.2.1) ((psU ts tl kf (0, V, vc, sp, fs) i).2.2.2.1)).2.1) < tl := fun h => c_7 ((nI_ltI (a := (rfE ts tl i ((psU ts tl kf (0, V, vc, sp, fs) i).1) ((psU ts tl kf (0, V, vc, sp, fs) i).2.1) ((psU ts tl kf (0, V, vc, sp, fs) i).2.2.1) ((psU ts tl kf (0, V, vc, sp, fs) i).2.2.2.1)).2.1) (b := tl) (by omega) (by omega)).mpr h)
            refine lv_aload_n hx hb dX6_parse_48 rfl (lv_at hl 1 rfl) ?_
            refine lv_iload_n hx hb dX6_parse_49 rfl (lv_at hl 3 rfl) ?_
            refine lv_iconst (v := 1) hx hb dX6_parse_50 (by decide) ?_
            refine ni_add hx hb i 1 dX6_parse_51 ?_
            refine va_put (D := D) (ci := 8) (v := .int (nI (i + 1))) (ty := .int) (C := RX6) (T := TX6) (N := 7) hx hb hts kc_RX6 tyX6 tyX6_ok nmX6 hown hK hP hD hS 0 rfl rfl 4 (by decide) k_fieldLink_30 (fun _ h9 => h9) rfl (by decide +kernel) rfl rfl (Nat.le_of_ble_eq_true rfl) dX6_parse_52 (fun H locs hP hD hS => ?_)
            have hP : va_P D vwCl (bCT k tx sg tl fo va (i + 1) ((rfE ts tl i ((psU ts tl kf (0, V, vc, sp, fs) i).1) ((psU ts tl kf (0, V, vc, sp, fs) i).2.1) ((psU ts tl kf (0, V, vc, sp, fs) i).2.2.1) ((psU ts tl kf (0, V, vc, sp, fs) i).2.2.2.1)).2.2.1) ((rfE ts tl i ((psU ts tl kf (0, V, vc, sp, fs) i).1) ((psU ts tl kf (0, V, vc, sp, fs) i).2.1) ((psU ts tl kf (0, V, vc, sp, fs) i).2.2.1) ((psU ts tl kf (0, V, vc, sp, fs) i).2.2.2.1)).2.1) ++ bC60 k sg ts ++ bGI k va gi ++ bG3 k gi ((rfE ts tl i ((psU ts tl kf (0, V, vc, sp, fs) i).1) ((psU ts tl kf (0, V, vc, sp, fs) i).2.1) ((psU ts tl kf (0, V, vc, sp, fs) i).2.2.1) ((psU ts tl kf (0, V, vc, sp, fs) i).2.2.2.1)).2.2.2) ++ bFO k fo (va_up ((psU ts tl kf (0, V, vc, sp, fs) i).2.2.2.2) i (some (kf (rfN ts tl i ((psU ts tl kf (0, V, vc, sp, fs) i).1) ((psU ts tl kf (0, V, vc, sp, fs) i).2.1) ((psU ts tl kf (0, V, vc, sp, fs) i).2.2.1) ((psU ts tl kf (0, V, vc, sp, fs) i).2.2.2.1)))))) H := hP
            have hD : va_D A (bCT k tx sg tl fo va (i + 1) ((rfE ts tl i ((psU ts tl kf (0, V, vc, sp, fs) i).1) ((psU ts tl kf (0, V, vc, sp, fs) i).2.1) ((psU ts tl kf (0, V, vc, sp, fs) i).2.2.1) ((psU ts tl kf (0, V, vc, sp, fs) i).2.2.2.1)).2.2.1) ((rfE ts tl i ((psU ts tl kf (0, V, vc, sp, fs) i).1) ((psU ts tl kf (0, V, vc, sp, fs) i).2.1) ((psU ts tl kf (0, V, vc, sp, fs) i).2.2.1) ((psU ts tl kf (0, V, vc, sp, fs) i).2.2.2.1)).2.1) ++ bC60 k sg ts ++ bGI k va gi ++ bG3 k gi ((rfE ts tl i ((psU ts tl kf (0, V, vc, sp, fs) i).1) ((psU ts tl kf (0, V, vc, sp, fs) i).2.1) ((psU ts tl kf (0, V, vc, sp, fs) i).2.2.1) ((psU ts tl kf (0, V, vc, sp, fs) i).2.2.2.1)).2.2.2) ++ bFO k fo (va_up ((psU ts tl kf (0, V, vc, sp, fs) i).2.2.2.2) i (some (kf (rfN ts tl i ((psU ts tl kf (0, V, vc, sp, fs) i).1) ((psU ts tl kf (0, V, vc, sp, fs) i).2.1) ((psU ts tl kf (0, V, vc, sp, fs) i).2.2.1) ((psU ts tl kf (0, V, vc, sp, fs) i).2.2.2.1)))))) := hD
            have hN9 : psN ts tl kf (0, V, vc, sp, fs) = i := psN_at ha (by first | exact qsG_f1 hfd9 | exact qsG_f2 (by omega) | exact qsG_f3 (by assumption)) (by omega)
            refine lv_iconst (v := (-1)) hx hb dX6_parse_55 (by decide) ?_
            have e_20 : (i + 1 : Nat) = (psR ts tl kf (0, V, vc, sp, fs)).2.1 := by first | (with_reducible rfl) | (rw [psR_at hN9]; unfold psE; rw [if_neg (show ¬ i = 10 by omega), if_pos hfd9, if_neg (show ¬ (rfE ts tl i (psU ts tl kf (0, V, vc, sp, fs) i).1 (psU ts tl kf (0, V, vc, sp, fs) i).2.1 (psU ts tl kf (0, V, vc, sp, fs) i).2.2.1 (psU ts tl kf (0, V, vc, sp, fs) i).2.2.2.1).2.1 < tl by omega)] <;> rfl)
            have hP := Eq.mp (congrArg (fun z9 => va_P D vwCl (bCT k tx sg tl fo va z9 ((rfE ts tl i ((psU ts tl kf (0, V, vc, sp, fs) i).1) ((psU ts tl kf (0, V, vc, sp, fs) i).2.1) ((psU ts tl kf (0, V, vc, sp, fs) i).2.2.1) ((psU ts tl kf (0, V, vc, sp, fs) i).2.2.2.1)).2.2.1) ((rfE ts tl i ((psU ts tl kf (0, V, vc, sp, fs) i).1) ((psU ts tl kf (0, V, vc, sp, fs) i).2.1) ((psU ts tl kf (0, V, vc, sp, fs) i).2.2.1) ((psU ts tl kf (0, V, vc, sp, fs) i).2.2.2.1)).2.1) ++ bC60 k sg ts ++ bGI k va gi ++ bG3 k gi ((rfE ts tl i ((psU ts tl kf (0, V, vc, sp, fs) i).1) ((psU ts tl kf (0, V, vc, sp, fs) i).2.1) ((psU ts tl kf (0, V, vc, sp, fs) i).2.2.1) ((psU ts tl kf (0, V, vc, sp, fs) i).2.2.2.1)).2.2.2) ++ bFO k fo (va_up ((psU ts tl kf (0, V, vc, sp, fs) i).2.2.2.2) i (some (kf (rfN ts tl i ((psU ts tl kf (0, V, vc, sp, fs) i).1) ((psU ts tl kf (0, V, vc, sp, fs) i).2.1) ((psU ts tl kf (0, V, vc, sp, fs) i).2.2.1) ((psU ts tl kf (0, V, vc, sp, fs) i).2.2.2.1)))))) H) e_20) hP
            have hD := Eq.mp (congrArg (fun z9 => va_D A (bCT k tx sg tl fo va z9 ((rfE ts tl i ((psU ts tl kf (0, V, vc, sp, fs) i).1) ((psU ts tl kf (0, V, vc, sp, fs) i).2.1) ((psU ts tl kf (0, V, vc, sp, fs) i).2.2.1) ((psU ts tl kf (0, V, vc, sp, fs) i).2.2.2.1)).2.2.1) ((rfE ts tl i ((psU ts tl kf (0, V, vc, sp, fs) i).1) ((psU ts tl kf (0, V, vc, sp, fs) i).2.1) ((psU ts tl kf (0, V, vc, sp, fs) i).2.2.1) ((psU ts tl kf (0, V, vc, sp, fs) i).2.2.2.1)).2.1) ++ bC60 k sg ts ++ bGI k va gi ++ bG3 k gi ((rfE ts tl i ((psU ts tl kf (0, V, vc, sp, fs) i).1) ((psU ts tl kf (0, V, vc, sp, fs) i).2.1) ((psU ts tl kf (0, V, vc, sp, fs) i).2.2.1) ((psU ts tl kf (0, V, vc, sp, fs) i).2.2.2.1)).2.2.2) ++ bFO k fo (va_up ((psU ts tl kf (0, V, vc, sp, fs) i).2.2.2.2) i (some (kf (rfN ts tl i ((psU ts tl kf (0, V, vc, sp, fs) i).1) ((psU ts tl kf (0, V, vc, sp, fs) i).2.1) ((psU ts tl kf (0, V, vc, sp, fs) i).2.2.1) ((psU ts tl kf (0, V, vc, sp, fs) i).2.2.2.1))))))) e_20) hD
            have e_21 : ((rfE ts tl i ((psU ts tl kf (0, V, vc, sp, fs) i).1) ((psU ts tl kf (0, V, vc, sp, fs) i).2.1) ((psU ts tl kf (0, V, vc, sp, fs) i).2.2.1) ((psU ts tl kf (0, V, vc, sp, fs) i).2.2.2.1)).2.2.1 : Nat) = (psR ts tl kf (0, V, vc, sp, fs)).2.2.2.1 := by first | (with_reducible rfl) | (rw [psR_at hN9]; unfold psE; rw [if_neg (show ¬ i = 10 by omega), if_pos hfd9, if_neg (show ¬ (rfE ts tl i (psU ts tl kf (0, V, vc, sp, fs) i).1 (psU ts tl kf (0, V, vc, sp, fs) i).2.1 (psU ts tl kf (0, V, vc, sp, fs) i).2.2.1 (psU ts tl kf (0, V, vc, sp, fs) i).2.2.2.1).2.1 < tl by omega)] <;> rfl)
            have hP := Eq.mp (congrArg (fun z9 => va_P D vwCl (bCT k tx sg tl fo va ((psR ts tl kf (0, V, vc, sp, fs)).2.1) z9 ((rfE ts tl i ((psU ts tl kf (0, V, vc, sp, fs) i).1) ((psU ts tl kf (0, V, vc, sp, fs) i).2.1) ((psU ts tl kf (0, V, vc, sp, fs) i).2.2.1) ((psU ts tl kf (0, V, vc, sp, fs) i).2.2.2.1)).2.1) ++ bC60 k sg ts ++ bGI k va gi ++ bG3 k gi ((rfE ts tl i ((psU ts tl kf (0, V, vc, sp, fs) i).1) ((psU ts tl kf (0, V, vc, sp, fs) i).2.1) ((psU ts tl kf (0, V, vc, sp, fs) i).2.2.1) ((psU ts tl kf (0, V, vc, sp, fs) i).2.2.2.1)).2.2.2) ++ bFO k fo (va_up ((psU ts tl kf (0, V, vc, sp, fs) i).2.2.2.2) i (some (kf (rfN ts tl i ((psU ts tl kf (0, V, vc, sp, fs) i).1) ((psU ts tl kf (0, V, vc, sp, fs) i).2.1) ((psU ts tl kf (0, V, vc, sp, fs) i).2.2.1) ((psU ts tl kf (0, V, vc, sp, fs) i).2.2.2.1)))))) H) e_21) hP
            have hD := Eq.mp (congrArg (fun z9 => va_D A (bCT k tx sg tl fo va ((psR ts tl kf (0, V, vc, sp, fs)).2.1) z9 ((rfE ts tl i ((psU ts tl kf (0, V, vc, sp, fs) i).1) ((psU ts tl kf (0, V, vc, sp, fs) i).2.1) ((psU ts tl kf (0, V, vc, sp, fs) i).2.2.1) ((psU ts tl kf (0, V, vc, sp, fs) i).2.2.2.1)).2.1) ++ bC60 k sg ts ++ bGI k va gi ++ bG3 k gi ((rfE ts tl i ((psU ts tl kf (0, V, vc, sp, fs) i).1) ((psU ts tl kf (0, V, vc, sp, fs) i).2.1) ((psU ts tl kf (0, V, vc, sp, fs) i).2.2.1) ((psU ts tl kf (0, V, vc, sp, fs) i).2.2.2.1)).2.2.2) ++ bFO k fo (va_up ((psU ts tl kf (0, V, vc, sp, fs) i).2.2.2.2) i (some (kf (rfN ts tl i ((psU ts tl kf (0, V, vc, sp, fs) i).1) ((psU ts tl kf (0, V, vc, sp, fs) i).2.1) ((psU ts tl kf (0, V, vc, sp, fs) i).2.2.1) ((psU ts tl kf (0, V, vc, sp, fs) i).2.2.2.1))))))) e_21) hD
            have e_22 : ((rfE ts tl i ((psU ts tl kf (0, V, vc, sp, fs) i).1) ((psU ts tl kf (0, V, vc, sp, fs) i).2.1) ((psU ts tl kf (0, V, vc, sp, fs) i).2.2.1) ((psU ts tl kf (0, V, vc, sp, fs) i).2.2.2.1)).2.1 : Nat) = (psR ts tl kf (0, V, vc, sp, fs)).2.2.2.2.1 := by first | (with_reducible rfl) | (rw [psR_at hN9]; unfold psE; rw [if_neg (show ¬ i = 10 by omega), if_pos hfd9, if_neg (show ¬ (rfE ts tl i (psU ts tl kf (0, V, vc, sp, fs) i).1 (psU ts tl kf (0, V, vc, sp, fs) i).2.1 (psU ts tl kf (0, V, vc, sp, fs) i).2.2.1 (psU ts tl kf (0, V, vc, sp, fs) i).2.2.2.1).2.1 < tl by omega)] <;> rfl)
            have hP := Eq.mp (congrArg (fun z9 => va_P D vwCl (bCT k tx sg tl fo va ((psR ts tl kf (0, V, vc, sp, fs)).2.1) ((psR ts tl kf (0, V, vc, sp, fs)).2.2.2.1) z9 ++ bC60 k sg ts ++ bGI k va gi ++ bG3 k gi ((rfE ts tl i ((psU ts tl kf (0, V, vc, sp, fs) i).1) ((psU ts tl kf (0, V, vc, sp, fs) i).2.1) ((psU ts tl kf (0, V, vc, sp, fs) i).2.2.1) ((psU ts tl kf (0, V, vc, sp, fs) i).2.2.2.1)).2.2.2) ++ bFO k fo (va_up ((psU ts tl kf (0, V, vc, sp, fs) i).2.2.2.2) i (some (kf (rfN ts tl i ((psU ts tl kf (0, V, vc, sp, fs) i).1) ((psU ts tl kf (0, V, vc, sp, fs) i).2.1) ((psU ts tl kf (0, V, vc, sp, fs) i).2.2.1) ((psU ts tl kf (0, V, vc, sp, fs) i).2.2.2.1)))))) H) e_22) hP
            have hD := Eq.mp (congrArg (fun z9 => va_D A (bCT k tx sg tl fo va ((psR ts tl kf (0, V, vc, sp, fs)).2.1) ((psR ts tl kf (0, V, vc, sp, fs)).2.2.2.1) z9 ++ bC60 k sg ts ++ bGI k va gi ++ bG3 k gi ((rfE ts tl i ((psU ts tl kf (0, V, vc, sp, fs) i).1) ((psU ts tl kf (0, V, vc, sp, fs) i).2.1) ((psU ts tl kf (0, V, vc, sp, fs) i).2.2.1) ((psU ts tl kf (0, V, vc, sp, fs) i).2.2.2.1)).2.2.2) ++ bFO k fo (va_up ((psU ts tl kf (0, V, vc, sp, fs) i).2.2.2.2) i (some (kf (rfN ts tl i ((psU ts tl kf (0, V, vc, sp, fs) i).1) ((psU ts tl kf (0, V, vc, sp, fs) i).2.1) ((psU ts tl kf (0, V, vc, sp, fs) i).2.2.1) ((psU ts tl kf (0, V, vc, sp, fs) i).2.2.2.1))))))) e_22) hD
            have e_23 : ((rfE ts tl i ((psU ts tl kf (0, V, vc, sp, fs) i).1) ((psU ts tl kf (0, V, vc, sp, fs) i).2.1) ((psU ts tl kf (0, V, vc, sp, fs) i).2.2.1) ((psU ts tl kf (0, V, vc, sp, fs) i).2.2.2.1)).2.2.2 : Nat → Nat → Int32) = (psR ts tl kf (0, V, vc, sp, fs)).2.2.1 := by first | (with_reducible rfl) | (rw [psR_at hN9]; unfold psE; rw [if_neg (show ¬ i = 10 by omega), if_pos hfd9, if_neg (show ¬ (rfE ts tl i (psU ts tl kf (0, V, vc, sp, fs) i).1 (psU ts tl kf (0, V, vc, sp, fs) i).2.1 (psU ts tl kf (0, V, vc, sp, fs) i).2.2.1 (psU ts tl kf (0, V, vc, sp, fs) i).2.2.2.1).2.1 < tl by omega)] <;> rfl)
            have hP := Eq.mp (congrArg (fun z9 => va_P D vwCl (bCT k tx sg tl fo va ((psR ts tl kf (0, V, vc, sp, fs)).2.1) ((psR ts tl kf (0, V, vc, sp, fs)).2.2.2.1) ((psR ts tl kf (0, V, vc, sp, fs)).2.2.2.2.1) ++ bC60 k sg ts ++ bGI k va gi ++ bG3 k gi z9 ++ bFO k fo (va_up ((psU ts tl kf (0, V, vc, sp, fs) i).2.2.2.2) i (some (kf (rfN ts tl i ((psU ts tl kf (0, V, vc, sp, fs) i).1) ((psU ts tl kf (0, V, vc, sp, fs) i).2.1) ((psU ts tl kf (0, V, vc, sp, fs) i).2.2.1) ((psU ts tl kf (0, V, vc, sp, fs) i).2.2.2.1)))))) H) e_23) hP
            have hD := Eq.mp (congrArg (fun z9 => va_D A (bCT k tx sg tl fo va ((psR ts tl kf (0, V, vc, sp, fs)).2.1) ((psR ts tl kf (0, V, vc, sp, fs)).2.2.2.1) ((psR ts tl kf (0, V, vc, sp, fs)).2.2.2.2.1) ++ bC60 k sg ts ++ bGI k va gi ++ bG3 k gi z9 ++ bFO k fo (va_up ((psU ts tl kf (0, V, vc, sp, fs) i).2.2.2.2) i (some (kf (rfN ts tl i ((psU ts tl kf (0, V, vc, sp, fs) i).1) ((psU ts tl kf (0, V, vc, sp, fs) i).2.1) ((psU ts tl kf (0, V, vc, sp, fs) i).2.2.1) ((psU ts tl kf (0, V, vc, sp, fs) i).2.2.2.1))))))) e_23) hD
            have e_24 : (va_up ((psU ts tl kf (0, V, vc, sp, fs) i).2.2.2.2) i (some (kf (rfN ts tl i ((psU ts tl kf (0, V, vc, sp, fs) i).1) ((psU ts tl kf (0, V, vc, sp, fs) i).2.1) ((psU ts tl kf (0, V, vc, sp, fs) i).2.2.1) ((psU ts tl kf (0, V, vc, sp, fs) i).2.2.2.1)))) : Nat → Option Nat) = (psR ts tl kf (0, V, vc, sp, fs)).2.2.2.2.2 := by first | (with_reducible rfl) | (rw [psR_at hN9]; unfold psE; rw [if_neg (show ¬ i = 10 by omega), if_pos hfd9, if_neg (show ¬ (rfE ts tl i (psU ts tl kf (0, V, vc, sp, fs) i).1 (psU ts tl kf (0, V, vc, sp, fs) i).2.1 (psU ts tl kf (0, V, vc, sp, fs) i).2.2.1 (psU ts tl kf (0, V, vc, sp, fs) i).2.2.2.1).2.1 < tl by omega)] <;> rfl)
            have hP := Eq.mp (congrArg (fun z9 => va_P D vwCl (bCT k tx sg tl fo va ((psR ts tl kf (0, V, vc, sp, fs)).2.1) ((psR ts tl kf (0, V, vc, sp, fs)).2.2.2.1) ((psR ts tl kf (0, V, vc, sp, fs)).2.2.2.2.1) ++ bC60 k sg ts ++ bGI k va gi ++ bG3 k gi ((psR ts tl kf (0, V, vc, sp, fs)).2.2.1) ++ bFO k fo z9) H) e_24) hP
            have hD := Eq.mp (congrArg (fun z9 => va_D A (bCT k tx sg tl fo va ((psR ts tl kf (0, V, vc, sp, fs)).2.1) ((psR ts tl kf (0, V, vc, sp, fs)).2.2.2.1) ((psR ts tl kf (0, V, vc, sp, fs)).2.2.2.2.1) ++ bC60 k sg ts ++ bGI k va gi ++ bG3 k gi ((psR ts tl kf (0, V, vc, sp, fs)).2.2.1) ++ bFO k fo z9)) e_24) hD
            exact W.iret (v := (-1)) hx hb hr (fun t9 ht hW => ⟨⟨_, (), rfl, (by rw [psR_at hN9]; unfold psE; rw [if_neg (show ¬ i = 10 by omega), if_pos hfd9, if_neg (show ¬ (rfE ts tl i (psU ts tl kf (0, V, vc, sp, fs) i).1 (psU ts tl kf (0, V, vc, sp, fs) i).2.1 (psU ts tl kf (0, V, vc, sp, fs) i).2.2.1 (psU ts tl kf (0, V, vc, sp, fs) i).2.2.2.1).2.1 < tl by omega)] <;> rfl), ⟨by rw [ht]; exact hP, va_K.moved hW.alike hK, hD⟩⟩, hS.F ht⟩) hS.2.2 dX6_parse_56 hlocks
        · skip
          refine lv_aload_n hx hb dX6_parse_15 rfl (lv_at hl 0 rfl) ?_
          refine lv_iload_n hx hb dX6_parse_16 rfl (lv_at hl 1 rfl) ?_
          have hq9 := mp_of (ws := bCT k tx sg tl fo va i ((psU ts tl kf (0, V, vc, sp, fs) i).2.2.1) ((psU ts tl kf (0, V, vc, sp, fs) i).2.2.2.1) ++ bC60 k sg ts ++ bGI k va gi ++ bG3 k gi ((psU ts tl kf (0, V, vc, sp, fs) i).2.1) ++ bFO k fo ((psU ts tl kf (0, V, vc, sp, fs) i).2.2.2.2)) (wc := bCT k tx sg tl fo va i ((psU ts tl kf (0, V, vc, sp, fs) i).2.2.1) ((psU ts tl kf (0, V, vc, sp, fs) i).2.2.2.1) ++ bC60 k sg ts ++ bGI k va gi ++ bG3 k gi ((psU ts tl kf (0, V, vc, sp, fs) i).2.1)) (is := [0, 1, 2, 3, 4, 5, 6, 7, 8, 9, 10, 11, 12]) rfl
          have hFc := va_free (wc := bCT k tx sg tl fo va i ((psU ts tl kf (0, V, vc, sp, fs) i).2.2.1) ((psU ts tl kf (0, V, vc, sp, fs) i).2.2.2.1) ++ bC60 k sg ts ++ bGI k va gi ++ bG3 k gi ((psU ts tl kf (0, V, vc, sp, fs) i).2.1)) hD hS hA [0, 1, 2, 3, 4, 5, 6, 7, 8, 9, 10, 11, 12] hq9
          refine va_callq (va_runV (As := [.int (nI ((psU ts tl kf (0, V, vc, sp, fs) i).1))]) (rest := []) hF (m_X6_readForm_f l9 D k ks kv kf ka kw H.size tx sg tl fo va i ((psU ts tl kf (0, V, vc, sp, fs) i).2.2.1) ((psU ts tl kf (0, V, vc, sp, fs) i).2.2.2.1) ts gi ((psU ts tl kf (0, V, vc, sp, fs) i).2.1) ((psU ts tl kf (0, V, vc, sp, fs) i).1) htl hle9.2 hts9 (by omega) hvc9 hle9.1 hfd9) (cwV 1 hts gX6_parse_X6_readForm rfl rfl rfl (by decide +kernel) ⟨Nat.le_of_ble_eq_true rfl, Nat.le_of_ble_eq_true rfl⟩) (zPreV hK hN hKC hS hFc hP hD [0, 1, 2, 3, 4, 5, 6, 7, 8, 9, 10, 11, 12] (fm_of hq9) (by decide) hq9 0 8 rfl rfl) rfl rfl hl.1 rfl (lv_room (Nat.le_of_ble_eq_true rfl)) dX6_parse_17 ⟨Nat.zero_le _, Nat.zero_le _⟩) hS (fun q _ h => hFc q h) hFc (fun r u9 t9 H1 locs ht hvm hw hB hz1 hk1 hS => ?_)
          obtain ⟨hP, hD⟩ := wjoin9 (wr := bFO k fo ((psU ts tl kf (0, V, vc, sp, fs) i).2.2.2.2)) (wf := bCT k tx sg tl fo va i ((rfU ts tl i ((psU ts tl kf (0, V, vc, sp, fs) i).1) ((psU ts tl kf (0, V, vc, sp, fs) i).2.1) ((psU ts tl kf (0, V, vc, sp, fs) i).2.2.1) ((psU ts tl kf (0, V, vc, sp, fs) i).2.2.2.1) 10).2.2.1) ((rfU ts tl i ((psU ts tl kf (0, V, vc, sp, fs) i).1) ((psU ts tl kf (0, V, vc, sp, fs) i).2.1) ((psU ts tl kf (0, V, vc, sp, fs) i).2.2.1) ((psU ts tl kf (0, V, vc, sp, fs) i).2.2.2.1) 10).1) ++ bC60 k sg ts ++ bGI k va gi ++ bG3 k gi ((rfU ts tl i ((psU ts tl kf (0, V, vc, sp, fs) i).1) ((psU ts tl kf (0, V, vc, sp, fs) i).2.1) ((psU ts tl kf (0, V, vc, sp, fs) i).2.2.1) ((psU ts tl kf (0, V, vc, sp, fs) i).2.2.2.1) 10).2.1) ++ bFO k fo ((psU ts tl kf (0, V, vc, sp, fs) i).2.2.2.2)) hP hD [0, 1, 2, 3, 4, 5, 6, 7, 8, 9, 10, 11, 12] [13] [1, 2, 3, 4, 5, 6, 7, 8, 9, 10, 11, 12, 13, 0] hq9 rfl (by decide) (by decide) hk1 hFc hB ht rfl (by decide)
          subst hw
          clear hB hk1 hz1 hvm hFc hq9
          clear ht
          clear t9
          generalize H1 = H at hP hS ⊢
          refine lv_tope (v2 := .null) rfl ?_
          refine lv_astore_nN (lv' := [(3, .null), (0, .ref tx), (1, .int (nI ((psU ts tl kf (0, V, vc, sp, fs) i).1))), (2, .int (nI i))]) hx hb dX6_parse_20 rfl hl (by decide) rfl (fun ls hl => ?_)
          refine lv_aload_nN hx hb dX6_parse_21 rfl (lv_at hl 0 rfl) ?_
          refine lv_ifnonnullN hx hb dX6_parse_22 ?_
          have hN9 : psN ts tl kf (0, V, vc, sp, fs) = i := psN_at ha (by first | exact qsG_f1 hfd9 | exact qsG_f2 (by omega) | exact qsG_f3 (by assumption)) (by omega)
          refine lv_aload_n hx hb dX6_parse_25 rfl (lv_at hl 1 rfl) ?_
          refine va_get (D := D) (ci := 8) (v := .int (nI ((rfU ts tl i ((psU ts tl kf (0, V, vc, sp, fs) i).1) ((psU ts tl kf (0, V, vc, sp, fs) i).2.1) ((psU ts tl kf (0, V, vc, sp, fs) i).2.2.1) ((psU ts tl kf (0, V, vc, sp, fs) i).2.2.2.1) 10).1))) (C := RX6) (T := TX6) (N := 7) hx hb hts kc_RX6 hown hK hP 0 rfl rfl 6 (by decide) k_fieldLink_36 (fun _ h9 => h9) rfl dX6_parse_26 ?_
          have e_25 : (i : Nat) = (psR ts tl kf (0, V, vc, sp, fs)).2.1 := by first | (with_reducible rfl) | (rw [psR_at hN9]; unfold psE; rw [if_neg (show ¬ i = 10 by omega), if_neg hfd9] <;> rfl)
          have hP := Eq.mp (congrArg (fun z9 => va_P D vwCl (bCT k tx sg tl fo va z9 ((rfU ts tl i ((psU ts tl kf (0, V, vc, sp, fs) i).1) ((psU ts tl kf (0, V, vc, sp, fs) i).2.1) ((psU ts tl kf (0, V, vc, sp, fs) i).2.2.1) ((psU ts tl kf (0, V, vc, sp, fs) i).2.2.2.1) 10).2.2.1) ((rfU ts tl i ((psU ts tl kf (0, V, vc, sp, fs) i).1) ((psU ts tl kf (0, V, vc, sp, fs) i).2.1) ((psU ts tl kf (0, V, vc, sp, fs) i).2.2.1) ((psU ts tl kf (0, V, vc, sp, fs) i).2.2.2.1) 10).1) ++ bC60 k sg ts ++ bGI k va gi ++ bG3 k gi ((rfU ts tl i ((psU ts tl kf (0, V, vc, sp, fs) i).1) ((psU ts tl kf (0, V, vc, sp, fs) i).2.1) ((psU ts tl kf (0, V, vc, sp, fs) i).2.2.1) ((psU ts tl kf (0, V, vc, sp, fs) i).2.2.2.1) 10).2.1) ++ bFO k fo ((psU ts tl kf (0, V, vc, sp, fs) i).2.2.2.2)) H) e_25) hP
          have hD := Eq.mp (congrArg (fun z9 => va_D A (bCT k tx sg tl fo va z9 ((rfU ts tl i ((psU ts tl kf (0, V, vc, sp, fs) i).1) ((psU ts tl kf (0, V, vc, sp, fs) i).2.1) ((psU ts tl kf (0, V, vc, sp, fs) i).2.2.1) ((psU ts tl kf (0, V, vc, sp, fs) i).2.2.2.1) 10).2.2.1) ((rfU ts tl i ((psU ts tl kf (0, V, vc, sp, fs) i).1) ((psU ts tl kf (0, V, vc, sp, fs) i).2.1) ((psU ts tl kf (0, V, vc, sp, fs) i).2.2.1) ((psU ts tl kf (0, V, vc, sp, fs) i).2.2.2.1) 10).1) ++ bC60 k sg ts ++ bGI k va gi ++ bG3 k gi ((rfU ts tl i ((psU ts tl kf (0, V, vc, sp, fs) i).1) ((psU ts tl kf (0, V, vc, sp, fs) i).2.1) ((psU ts tl kf (0, V, vc, sp, fs) i).2.2.1) ((psU ts tl kf (0, V, vc, sp, fs) i).2.2.2.1) 10).2.1) ++ bFO k fo ((psU ts tl kf (0, V, vc, sp, fs) i).2.2.2.2))) e_25) hD
          have e_26 : ((rfU ts tl i ((psU ts tl kf (0, V, vc, sp, fs) i).1) ((psU ts tl kf (0, V, vc, sp, fs) i).2.1) ((psU ts tl kf (0, V, vc, sp, fs) i).2.2.1) ((psU ts tl kf (0, V, vc, sp, fs) i).2.2.2.1) 10).2.2.1 : Nat) = (psR ts tl kf (0, V, vc, sp, fs)).2.2.2.1 := by first | (with_reducible rfl) | (rw [psR_at hN9]; unfold psE; rw [if_neg (show ¬ i = 10 by omega), if_neg hfd9] <;> rfl)
          have hP := Eq.mp (congrArg (fun z9 => va_P D vwCl (bCT k tx sg tl fo va ((psR ts tl kf (0, V, vc, sp, fs)).2.1) z9 ((rfU ts tl i ((psU ts tl kf (0, V, vc, sp, fs) i).1) ((psU ts tl kf (0, V, vc, sp, fs) i).2.1) ((psU ts tl kf (0, V, vc, sp, fs) i).2.2.1) ((psU ts tl kf (0, V, vc, sp, fs) i).2.2.2.1) 10).1) ++ bC60 k sg ts ++ bGI k va gi ++ bG3 k gi ((rfU ts tl i ((psU ts tl kf (0, V, vc, sp, fs) i).1) ((psU ts tl kf (0, V, vc, sp, fs) i).2.1) ((psU ts tl kf (0, V, vc, sp, fs) i).2.2.1) ((psU ts tl kf (0, V, vc, sp, fs) i).2.2.2.1) 10).2.1) ++ bFO k fo ((psU ts tl kf (0, V, vc, sp, fs) i).2.2.2.2)) H) e_26) hP
          have hD := Eq.mp (congrArg (fun z9 => va_D A (bCT k tx sg tl fo va ((psR ts tl kf (0, V, vc, sp, fs)).2.1) z9 ((rfU ts tl i ((psU ts tl kf (0, V, vc, sp, fs) i).1) ((psU ts tl kf (0, V, vc, sp, fs) i).2.1) ((psU ts tl kf (0, V, vc, sp, fs) i).2.2.1) ((psU ts tl kf (0, V, vc, sp, fs) i).2.2.2.1) 10).1) ++ bC60 k sg ts ++ bGI k va gi ++ bG3 k gi ((rfU ts tl i ((psU ts tl kf (0, V, vc, sp, fs) i).1) ((psU ts tl kf (0, V, vc, sp, fs) i).2.1) ((psU ts tl kf (0, V, vc, sp, fs) i).2.2.1) ((psU ts tl kf (0, V, vc, sp, fs) i).2.2.2.1) 10).2.1) ++ bFO k fo ((psU ts tl kf (0, V, vc, sp, fs) i).2.2.2.2))) e_26) hD
          have e_27 : ((rfU ts tl i ((psU ts tl kf (0, V, vc, sp, fs) i).1) ((psU ts tl kf (0, V, vc, sp, fs) i).2.1) ((psU ts tl kf (0, V, vc, sp, fs) i).2.2.1) ((psU ts tl kf (0, V, vc, sp, fs) i).2.2.2.1) 10).1 : Nat) = (psR ts tl kf (0, V, vc, sp, fs)).2.2.2.2.1 := by first | (with_reducible rfl) | (rw [psR_at hN9]; unfold psE; rw [if_neg (show ¬ i = 10 by omega), if_neg hfd9] <;> rfl)
          have hP := Eq.mp (congrArg (fun z9 => va_P D vwCl (bCT k tx sg tl fo va ((psR ts tl kf (0, V, vc, sp, fs)).2.1) ((psR ts tl kf (0, V, vc, sp, fs)).2.2.2.1) z9 ++ bC60 k sg ts ++ bGI k va gi ++ bG3 k gi ((rfU ts tl i ((psU ts tl kf (0, V, vc, sp, fs) i).1) ((psU ts tl kf (0, V, vc, sp, fs) i).2.1) ((psU ts tl kf (0, V, vc, sp, fs) i).2.2.1) ((psU ts tl kf (0, V, vc, sp, fs) i).2.2.2.1) 10).2.1) ++ bFO k fo ((psU ts tl kf (0, V, vc, sp, fs) i).2.2.2.2)) H) e_27) hP
          have hD := Eq.mp (congrArg (fun z9 => va_D A (bCT k tx sg tl fo va ((psR ts tl kf (0, V, vc, sp, fs)).2.1) ((psR ts tl kf (0, V, vc, sp, fs)).2.2.2.1) z9 ++ bC60 k sg ts ++ bGI k va gi ++ bG3 k gi ((rfU ts tl i ((psU ts tl kf (0, V, vc, sp, fs) i).1) ((psU ts tl kf (0, V, vc, sp, fs) i).2.1) ((psU ts tl kf (0, V, vc, sp, fs) i).2.2.1) ((psU ts tl kf (0, V, vc, sp, fs) i).2.2.2.1) 10).2.1) ++ bFO k fo ((psU ts tl kf (0, V, vc, sp, fs) i).2.2.2.2))) e_27) hD
          have e_28 : ((rfU ts tl i ((psU ts tl kf (0, V, vc, sp, fs) i).1) ((psU ts tl kf (0, V, vc, sp, fs) i).2.1) ((psU ts tl kf (0, V, vc, sp, fs) i).2.2.1) ((psU ts tl kf (0, V, vc, sp, fs) i).2.2.2.1) 10).2.1 : Nat → Nat → Int32) = (psR ts tl kf (0, V, vc, sp, fs)).2.2.1 := by first | (with_reducible rfl) | (rw [psR_at hN9]; unfold psE; rw [if_neg (show ¬ i = 10 by omega), if_neg hfd9] <;> rfl)
          have hP := Eq.mp (congrArg (fun z9 => va_P D vwCl (bCT k tx sg tl fo va ((psR ts tl kf (0, V, vc, sp, fs)).2.1) ((psR ts tl kf (0, V, vc, sp, fs)).2.2.2.1) ((psR ts tl kf (0, V, vc, sp, fs)).2.2.2.2.1) ++ bC60 k sg ts ++ bGI k va gi ++ bG3 k gi z9 ++ bFO k fo ((psU ts tl kf (0, V, vc, sp, fs) i).2.2.2.2)) H) e_28) hP
          have hD := Eq.mp (congrArg (fun z9 => va_D A (bCT k tx sg tl fo va ((psR ts tl kf (0, V, vc, sp, fs)).2.1) ((psR ts tl kf (0, V, vc, sp, fs)).2.2.2.1) ((psR ts tl kf (0, V, vc, sp, fs)).2.2.2.2.1) ++ bC60 k sg ts ++ bGI k va gi ++ bG3 k gi z9 ++ bFO k fo ((psU ts tl kf (0, V, vc, sp, fs) i).2.2.2.2))) e_28) hD
          have e_29 : ((psU ts tl kf (0, V, vc, sp, fs) i).2.2.2.2 : Nat → Option Nat) = (psR ts tl kf (0, V, vc, sp, fs)).2.2.2.2.2 := by first | (with_reducible rfl) | (rw [psR_at hN9]; unfold psE; rw [if_neg (show ¬ i = 10 by omega), if_neg hfd9] <;> rfl)
          have hP := Eq.mp (congrArg (fun z9 => va_P D vwCl (bCT k tx sg tl fo va ((psR ts tl kf (0, V, vc, sp, fs)).2.1) ((psR ts tl kf (0, V, vc, sp, fs)).2.2.2.1) ((psR ts tl kf (0, V, vc, sp, fs)).2.2.2.2.1) ++ bC60 k sg ts ++ bGI k va gi ++ bG3 k gi ((psR ts tl kf (0, V, vc, sp, fs)).2.2.1) ++ bFO k fo z9) H) e_29) hP
          have hD := Eq.mp (congrArg (fun z9 => va_D A (bCT k tx sg tl fo va ((psR ts tl kf (0, V, vc, sp, fs)).2.1) ((psR ts tl kf (0, V, vc, sp, fs)).2.2.2.1) ((psR ts tl kf (0, V, vc, sp, fs)).2.2.2.2.1) ++ bC60 k sg ts ++ bGI k va gi ++ bG3 k gi ((psR ts tl kf (0, V, vc, sp, fs)).2.2.1) ++ bFO k fo z9)) e_29) hD
          exact W.iret (v := nI ((rfU ts tl i ((psU ts tl kf (0, V, vc, sp, fs) i).1) ((psU ts tl kf (0, V, vc, sp, fs) i).2.1) ((psU ts tl kf (0, V, vc, sp, fs) i).2.2.1) ((psU ts tl kf (0, V, vc, sp, fs) i).2.2.2.1) 10).1)) hx hb hr (fun t9 ht hW => ⟨⟨_, (), rfl, (by rw [psR_at hN9]; unfold psE; rw [if_neg (show ¬ i = 10 by omega), if_neg hfd9] <;> rfl), ⟨by rw [ht]; exact hP, va_K.moved hW.alike hK, hD⟩⟩, hS.F ht⟩) hS.2.2 dX6_parse_29 hlocks
  refine lv_iconst (v := 0) hx hb dX6_parse_0 (by decide) ?_
  refine lv_istore_n (lv' := [(1, .int 0), (0, .ref tx)]) hx hb dX6_parse_1 rfl hl (by decide) rfl (fun ls hl => ?_)
  refine lv_iconst (v := 0) hx hb dX6_parse_2 (by decide) ?_
  refine lv_istore_n (lv' := [(2, .int 0), (1, .int 0), (0, .ref tx)]) hx hb dX6_parse_3 rfl hl (by decide) rfl (fun ls hl => ?_)
  have e_30 : (0 : Int32) = nI ((psU ts tl kf (0, V, vc, sp, fs) 0).1) := by first | (with_reducible rfl) | (rfl)
  have e_31 : (cm : Nat) = pcm cm 0 := by first | (with_reducible rfl) | (rfl)
  have hP := Eq.mp (congrArg (fun z9 => va_P D vwCl (bCT k tx sg tl fo va z9 vc sp ++ bC60 k sg ts ++ bGI k va gi ++ bG3 k gi V ++ bFO k fo fs) H) e_31) hP
  have hD := Eq.mp (congrArg (fun z9 => va_D A (bCT k tx sg tl fo va z9 vc sp ++ bC60 k sg ts ++ bGI k va gi ++ bG3 k gi V ++ bFO k fo fs)) e_31) hD
  have e_32 : (vc : Nat) = (psU ts tl kf (0, V, vc, sp, fs) 0).2.2.1 := by first | (with_reducible rfl) | (rfl)
  have hP := Eq.mp (congrArg (fun z9 => va_P D vwCl (bCT k tx sg tl fo va (pcm cm 0) z9 sp ++ bC60 k sg ts ++ bGI k va gi ++ bG3 k gi V ++ bFO k fo fs) H) e_32) hP
  have hD := Eq.mp (congrArg (fun z9 => va_D A (bCT k tx sg tl fo va (pcm cm 0) z9 sp ++ bC60 k sg ts ++ bGI k va gi ++ bG3 k gi V ++ bFO k fo fs)) e_32) hD
  have e_33 : (sp : Nat) = (psU ts tl kf (0, V, vc, sp, fs) 0).2.2.2.1 := by first | (with_reducible rfl) | (rfl)
  have hP := Eq.mp (congrArg (fun z9 => va_P D vwCl (bCT k tx sg tl fo va (pcm cm 0) ((psU ts tl kf (0, V, vc, sp, fs) 0).2.2.1) z9 ++ bC60 k sg ts ++ bGI k va gi ++ bG3 k gi V ++ bFO k fo fs) H) e_33) hP
  have hD := Eq.mp (congrArg (fun z9 => va_D A (bCT k tx sg tl fo va (pcm cm 0) ((psU ts tl kf (0, V, vc, sp, fs) 0).2.2.1) z9 ++ bC60 k sg ts ++ bGI k va gi ++ bG3 k gi V ++ bFO k fo fs)) e_33) hD
  have e_34 : (V : Nat → Nat → Int32) = (psU ts tl kf (0, V, vc, sp, fs) 0).2.1 := by first | (with_reducible rfl) | (rfl)
  have hP := Eq.mp (congrArg (fun z9 => va_P D vwCl (bCT k tx sg tl fo va (pcm cm 0) ((psU ts tl kf (0, V, vc, sp, fs) 0).2.2.1) ((psU ts tl kf (0, V, vc, sp, fs) 0).2.2.2.1) ++ bC60 k sg ts ++ bGI k va gi ++ bG3 k gi z9 ++ bFO k fo fs) H) e_34) hP
  have hD := Eq.mp (congrArg (fun z9 => va_D A (bCT k tx sg tl fo va (pcm cm 0) ((psU ts tl kf (0, V, vc, sp, fs) 0).2.2.1) ((psU ts tl kf (0, V, vc, sp, fs) 0).2.2.2.1) ++ bC60 k sg ts ++ bGI k va gi ++ bG3 k gi z9 ++ bFO k fo fs)) e_34) hD
  have e_35 : (fs : Nat → Option Nat) = (psU ts tl kf (0, V, vc, sp, fs) 0).2.2.2.2 := by first | (with_reducible rfl) | (rfl)
  have hP := Eq.mp (congrArg (fun z9 => va_P D vwCl (bCT k tx sg tl fo va (pcm cm 0) ((psU ts tl kf (0, V, vc, sp, fs) 0).2.2.1) ((psU ts tl kf (0, V, vc, sp, fs) 0).2.2.2.1) ++ bC60 k sg ts ++ bGI k va gi ++ bG3 k gi ((psU ts tl kf (0, V, vc, sp, fs) 0).2.1) ++ bFO k fo z9) H) e_35) hP
  have hD := Eq.mp (congrArg (fun z9 => va_D A (bCT k tx sg tl fo va (pcm cm 0) ((psU ts tl kf (0, V, vc, sp, fs) 0).2.2.1) ((psU ts tl kf (0, V, vc, sp, fs) 0).2.2.2.1) ++ bC60 k sg ts ++ bGI k va gi ++ bG3 k gi ((psU ts tl kf (0, V, vc, sp, fs) 0).2.1) ++ bFO k fo z9)) e_35) hD
  exact loop_4 ((10 - 0) + 1) 0 (by omega) (fun c hc => absurd hc (Nat.not_lt_zero c)) (Nat.lt_succ_self _) ls _ _ hP hD hS (lv_one hl 2 rfl rfl (lv_one hl 1 rfl (congrArg Value.int e_30) (lv_one hl 0 rfl rfl (lv_nil hl))))
