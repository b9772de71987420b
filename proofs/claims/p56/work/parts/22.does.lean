/-! ===== the model's commands ===== -/
/-- what the model is, of claims, entries, numbers: ten claims at most, sixteen entries at most -/
abbrev nOf (v : Nat → Int32) : Nat := (v 0).toNatClampNeg
abbrev lOf (v : Nat → Int32) : Nat := (v 4).toNatClampNeg
def okV (v : Nat → Int32) (fl : Nat → UInt32) : Prop := v 0 = nI (nOf v) ∧ nOf v ≤ 10 ∧ v 4 = nI (lOf v) ∧ lOf v ≤ 16 ∧ (∀ c, c < nOf v → okF (fl c)) ∧ lyOk (nOf v) (vl v)
theorem okV_mk {v : Nat → Int32} {fl : Nat → UInt32} {n nl : Nat} (h0 : v 0 = nI n) (hn : n ≤ 10) (h4 : v 4 = nI nl) (hl : nl ≤ 16) (hf : ∀ c, c < n → okF (fl c)) (hy : lyOk n (vl v)) : okV v fl := by
  have e0 : nOf v = n := by unfold nOf; rw [h0]; exact clN (by omega)
  have e4 : lOf v = nl := by unfold lOf; rw [h4]; exact clN (by omega)
  unfold okV
  rw [e0, e4]
  exact ⟨h0, hn, h4, hl, hf, hy⟩
abbrev MR := Int32 × Int32 × (Nat → Int32) × (Nat → UInt32) × (Nat → UInt32)
/-- a change by its number: answer, what is thrown, numbers, fluxes, the row to work in -/
def doM (n nl : Nat) (v : Nat → Int32) (fl nx : Nat → UInt32) (th : Int32) (w : Nat) (x y z : Int32) : MR :=
  match w with
  | 0 => ((opAdds v fl n th x).1, (opAdds v fl n th x).2.1, (opAdds v fl n th x).2.2.1, (opAdds v fl n th x).2.2.2, nx)
  | 1 => ((opSets v n th x y true).1, (opSets v n th x y true).2.1, (opSets v n th x y true).2.2, fl, nx)
  | 2 => ((opSets v n th x y false).1, (opSets v n th x y false).2.1, (opSets v n th x y false).2.2, fl, nx)
  | 3 => ((opMoves v n th x y).1, (opMoves v n th x y).2.1, (opMoves v n th x y).2.2, fl, nx)
  | 4 => ((opRacks v th x y).1, (opRacks v th x y).2.1, (opRacks v th x y).2.2, fl, nx)
  | 5 => ((opIns v nl th x y z).1, (opIns v nl th x y z).2.1, (opIns v nl th x y z).2.2, fl, nx)
  | 6 => ((opDrw v nl th x y).1, (opDrw v nl th x y).2.1, (opDrw v nl th x y).2.2, fl, nx)
  | 7 => ((opExc v fl n nl th x y).1, (opExc v fl n nl th x y).2.1, (opExc v fl n nl th x y).2.2.1, (opExc v fl n nl th x y).2.2.2, nx)
  | 8 => ((opLimits v th x).1, (opLimits v th x).2.1, (opLimits v th x).2.2, fl, nx)
  | _ => ((if rg 1 x 20 = true then (itP n (v, fl, nx, nl) x.toNatClampNeg).1 3 - v 3 else 0), (if rg 1 x 20 = true then th else (1 : Int32)), (if rg 1 x 20 = true then itP n (v, fl, nx, nl) x.toNatClampNeg else (v, fl, nx, nl)).1, (if rg 1 x 20 = true then itP n (v, fl, nx, nl) x.toNatClampNeg else (v, fl, nx, nl)).2.1, (if rg 1 x 20 = true then itP n (v, fl, nx, nl) x.toNatClampNeg else (v, fl, nx, nl)).2.2.1)
def doV (v : Nat → Int32) (fl nx : Nat → UInt32) (th : Int32) (w : Nat) (x y z : Int32) : MR := doM (nOf v) (lOf v) v fl nx th w x y z
theorem vl_upd {v : Nat → Int32} {j : Nat} {x : Int32} {c : Nat} (h : j ≠ 5 + 3 * c + 1) : vl (upd v j x) c = vl v c := by
  show upd v j x (5 + 3 * c + 1) = v (5 + 3 * c + 1)
  rw [upd_at, if_neg (fun e => h e.symm)]
theorem lyOk_cong {n : Nat} {f g : Nat → Int32} (h : lyOk n f) (e : ∀ c, c < n → g c = f c) : lyOk n g := fun c hc => by rw [e c hc]; exact h c hc
theorem vl_lg (v : Nat → Int32) {nl : Nat} (h : nl ≤ 16) (z : Int32) {c : Nat} (hc : c < 10) : vl (lgS v nl z) c = vl v c := lgS_lo v h z (by omega) (by omega)
/-- changes keep what the model is -/
theorem okV_do {v : Nat → Int32} {fl : Nat → UInt32} (h : okV v fl) (nx : Nat → UInt32) (th : Int32) (w : Nat) (x y z : Int32) : okV (doV v fl nx th w x y z).2.2.1 (doV v fl nx th w x y z).2.2.2.1 := by
  have hh := h
  obtain ⟨h0, hn, h4, hl, hf, hy⟩ := h
  unfold doV
  match w with
  | 0 =>
    show okV (opAdds v fl (nOf v) th x).2.2.1 (opAdds v fl (nOf v) th x).2.2.2
    unfold opAdds
    split
    · split
      · exact hh
      · rename_i q
        try dsimp only
        refine okV_mk (n := nOf v + 1) (nl := lOf v) (by first | rfl | (rw [upd_at, if_pos rfl])) (by omega) ?_ hl ?_ ?_
        · try dsimp only
          rw [upd_at, if_neg (by omega), upd_at, if_neg (by omega), upd_at, if_neg (by omega), upd_at, if_neg (by omega)]
          exact h4
        · intro c hc
          show okF (if c = nOf v then FP.fconst0 else fl c)
          split
          · exact okF_0
          · exact hf c (by omega)
        · intro c hc
          by_cases e : c = nOf v
          · subst e
            have e2 : vl (upd (upd (upd (upd v (5 + 3 * nOf v + 0) x) (5 + 3 * nOf v + 1) 0) (5 + 3 * nOf v + 2) 0) 0 (nI (nOf v + 1))) (nOf v) = 0 := by
              rw [vl_upd (by omega), vl_upd (by omega)]
              show upd _ (5 + 3 * nOf v + 1) 0 (5 + 3 * nOf v + 1) = 0
              rw [upd_at, if_pos rfl]
            show vl _ _ = nI (vl _ _).toNatClampNeg ∧ _
            rw [e2]
            exact ⟨rfl, by decide⟩
          · have e2 : vl (upd (upd (upd (upd v (5 + 3 * nOf v + 0) x) (5 + 3 * nOf v + 1) 0) (5 + 3 * nOf v + 2) 0) 0 (nI (nOf v + 1))) c = vl v c := by
              rw [vl_upd (by omega), vl_upd (by omega), vl_upd (by omega), vl_upd (by omega)]
            show vl _ _ = nI (vl _ _).toNatClampNeg ∧ _
            rw [e2]
            exact hy c (by omega)
    · exact hh
  | 1 =>
    show okV (opSets v (nOf v) th x y true).2.2 fl
    unfold opSets
    split
    · dsimp only
      split
      · exact hh
      · try dsimp only
        exact okV_mk (n := nOf v) (nl := lOf v) (by rw [upd_at, if_neg (by omega)]; exact h0) hn (by rw [upd_at, if_neg (by omega)]; exact h4) hl hf (lyOk_cong hy (fun c _ => vl_upd (by omega)))
    · exact hh
  | 2 =>
    show okV (opSets v (nOf v) th x y false).2.2 fl
    unfold opSets
    split
    · dsimp only
      split
      · exact hh
      · try dsimp only
        exact okV_mk (n := nOf v) (nl := lOf v) (by rw [upd_at, if_neg (by omega)]; exact h0) hn (by rw [upd_at, if_neg (by omega)]; exact h4) hl hf (lyOk_cong hy (fun c _ => vl_upd (by omega)))
    · exact hh
  | 3 =>
    show okV (opMoves v (nOf v) th x y).2.2 fl
    unfold opMoves
    split
    · rename_i q
      try dsimp only
      refine okV_mk (n := nOf v) (nl := lOf v) (by rw [upd_at, if_neg (by omega)]; exact h0) hn (by rw [upd_at, if_neg (by omega)]; exact h4) hl hf ?_
      intro c hc
      by_cases e : c = x.toNatClampNeg
      · have e2 : vl (upd v (5 + 3 * x.toNatClampNeg + 1) y) c = y := by
          show upd _ _ _ (5 + 3 * c + 1) = y
          rw [upd_at, if_pos (by omega)]
        show vl _ _ = nI (vl _ _).toNatClampNeg ∧ _
        rw [e2]
        obtain ⟨j, hj, rfl⟩ := rg_of (m := 3) (by decide) q.2
        rw [clN (by omega)]
        exact ⟨rfl, by omega⟩
      · have e2 : vl (upd v (5 + 3 * x.toNatClampNeg + 1) y) c = vl v c := vl_upd (by omega)
        show vl _ _ = nI (vl _ _).toNatClampNeg ∧ _
        rw [e2]
        exact hy c hc
    · exact hh
  | 4 =>
    show okV (opRacks v th x y).2.2 fl
    unfold opRacks
    split
    · split
      · split
        · try dsimp only
          exact okV_mk (n := nOf v) (nl := lOf v) (by rw [upd_at, if_neg (by omega)]; exact h0) hn (by rw [upd_at, if_neg (by omega)]; exact h4) hl hf (lyOk_cong hy (fun c hc => vl_upd (by omega)))
        · exact hh
      · exact hh
    · exact hh
  | 5 =>
    show okV (opIns v (lOf v) th x y z).2.2 fl
    unfold opIns
    split
    · split
      · split
        · split
          · try dsimp only
            exact okV_mk (n := nOf v) (nl := min (lOf v + 1) 16) (by rw [lgS_lo _ hl _ (by omega) (by omega), upd_at, if_neg (by omega)]; exact h0) hn (lgS_4 _ hl _) (Nat.min_le_right _ _) hf (lyOk_cong hy (fun c hc => by rw [vl_lg _ hl _ (by omega)]; exact vl_upd (by omega)))
          · exact hh
        · exact hh
      · exact hh
    · exact hh
  | 6 =>
    show okV (opDrw v (lOf v) th x y).2.2 fl
    unfold opDrw
    split
    · split
      · exact hh
      · try dsimp only
        exact okV_mk (n := nOf v) (nl := min (lOf v + 1) 16) (by rw [lgS_lo _ hl _ (by omega) (by omega), upd_at, if_neg (by omega)]; exact h0) hn (lgS_4 _ hl _) (Nat.min_le_right _ _) hf (lyOk_cong hy (fun c hc => by rw [vl_lg _ hl _ (by omega)]; exact vl_upd (by omega)))
    · exact hh
  | 7 =>
    show okV (opExc v fl (nOf v) (lOf v) th x y).2.2.1 (opExc v fl (nOf v) (lOf v) th x y).2.2.2
    unfold opExc
    split
    · rename_i q
      split
      · rename_i q2
        try dsimp only
        refine okV_mk (n := nOf v) (nl := min (lOf v + 1) 16) (by rw [lgS_lo _ hl _ (by omega) (by omega)]; exact h0) hn (lgS_4 _ hl _) (Nat.min_le_right _ _) ?_ (lyOk_cong hy (fun c hc => vl_lg _ hl _ (by omega)))
        intro c hc
        show okF (if c = x.toNatClampNeg then _ else fl c)
        split
        · rename_i e
          obtain ⟨j, hj, rfl⟩ := inC_of hn q
          rw [clN (by omega)]
          have ham := of_decide_eq_true (show decide (1 ≤ y ∧ y ≤ 1000) = true from q2)
          exact okF_cap (okF_add (hf j hj) (okF_am ham.1 ham.2))
        · exact hf c hc
      · exact hh
    · exact hh
  | 8 =>
    show okV (opLimits v th x).2.2 fl
    unfold opLimits
    split
    · try dsimp only
      exact okV_mk (n := nOf v) (nl := lOf v) (by rw [upd_at, if_neg (by omega)]; exact h0) hn (by rw [upd_at, if_neg (by omega)]; exact h4) hl hf (lyOk_cong hy (fun c _ => vl_upd (by omega)))
    · exact hh
  | w + 9 =>
    show okV (if rg 1 x 20 = true then itP (nOf v) (v, fl, nx, lOf v) x.toNatClampNeg else (v, fl, nx, lOf v)).1 (if rg 1 x 20 = true then itP (nOf v) (v, fl, nx, lOf v) x.toNatClampNeg else (v, fl, nx, lOf v)).2.1
    split
    · obtain ⟨a0, a4, al, af, ay⟩ := okM_itP hn (s := (v, fl, nx, lOf v)) ⟨h0, h4, hl, hf, hy⟩ x.toNatClampNeg
      try dsimp only
      exact okV_mk a0 hn a4 al af ay
    · exact hh
def caE (w : Nat) : Nat := if w = 0 ∨ 7 < w then 4 else 1
/-- what stands behind a word: two numbers or letters more, what follows, whether it is wrong -/
def cpE (tx : Nat → Int32) (en h : Nat) : Nat → Int32 × Int32 × Nat × Bool
  | 1 => if dwE tx en h false 1 = true then (0, 0, h + dkE tx en h false 1, true) else ((bhE tx en (h + dkE tx en h false 1) false 62 1).1, 0, (bhE tx en (h + dkE tx en h false 1) false 62 1).2)
  | 2 => if dwE tx en h false 1 = true then (0, 0, h + dkE tx en h false 1, true) else ((bhE tx en (h + dkE tx en h false 1) false 62 1).1, 0, (bhE tx en (h + dkE tx en h false 1) false 62 1).2)
  | 3 => if dwE tx en h false 1 = true then (0, 0, h + dkE tx en h false 1, true) else ((bhE tx en (h + dkE tx en h false 1) false 61 1).1, 0, (bhE tx en (h + dkE tx en h false 1) false 61 1).2)
  | 4 => if dwE tx en h false 1 = true then (0, 0, h + dkE tx en h false 1, true) else (sgn tx en (h + dkE tx en h false 1), 0, ltH tx en (h + dkE tx en h false 1) false true, ltW tx en (h + dkE tx en h false 1) false true)
  | 5 => if dwE tx en h false 1 = true then (0, 0, h + dkE tx en h false 1, true) else if dwE tx en (h + dkE tx en h false 1) false 1 = true then (dvE tx en (h + dkE tx en h false 1) (dkE tx en (h + dkE tx en h false 1) false 1), 0, h + dkE tx en h false 1 + dkE tx en (h + dkE tx en h false 1) false 1, true) else (dvE tx en (h + dkE tx en h false 1) (dkE tx en (h + dkE tx en h false 1) false 1), sgn tx en (h + dkE tx en h false 1 + dkE tx en (h + dkE tx en h false 1) false 1), ltH tx en (h + dkE tx en h false 1 + dkE tx en (h + dkE tx en h false 1) false 1) false false, ltW tx en (h + dkE tx en h false 1 + dkE tx en (h + dkE tx en h false 1) false 1) false false)
  | 6 => if dwE tx en h false 1 = true then (0, 0, h + dkE tx en h false 1, true) else (dvE tx en (h + dkE tx en h false 1) (dkE tx en (h + dkE tx en h false 1) false 1), 0, h + dkE tx en h false 1 + dkE tx en (h + dkE tx en h false 1) false 1, dwE tx en (h + dkE tx en h false 1) false 1)
  | 7 => if dwE tx en h false 1 = true then (0, 0, h + dkE tx en h false 1, true) else ((bhE tx en (h + dkE tx en h false 1) false 43 4).1, 0, (bhE tx en (h + dkE tx en h false 1) false 43 4).2)
  | _ => (0, 0, h + dkE tx en h false 4, dwE tx en h false 4)
/-- the word, sealed -/
theorem wdS_ex (tx : Nat → Int32) (en he : Nat) : ∃ x : Nat × Bool × Int32, wdE tx en he false = x := ⟨_, rfl⟩
noncomputable def wdS (tx : Nat → Int32) (en he : Nat) : Nat × Bool × Int32 := Classical.choose (wdS_ex tx en he)
theorem wdS_eq (tx : Nat → Int32) (en he : Nat) : wdE tx en he false = wdS tx en he := Classical.choose_spec (wdS_ex tx en he)
/-- a command: what follows, whether it is wrong, the word, its numbers -/
noncomputable def cmP0 (tx : Nat → Int32) (en he : Nat) : Nat × Bool × Nat × Int32 × Int32 × Int32 :=
  if (wdS tx en he).2.1 = true then ((wdS tx en he).1, true, 0, 0, 0, 0) else
    ((cpE tx en (wdS tx en he).1 (wdS tx en he).2.2.toNatClampNeg).2.2.1, (cpE tx en (wdS tx en he).1 (wdS tx en he).2.2.toNatClampNeg).2.2.2, (wdS tx en he).2.2.toNatClampNeg,
      dvE tx en (wdS tx en he).1 (dkE tx en (wdS tx en he).1 false (caE (wdS tx en he).2.2.toNatClampNeg)), (cpE tx en (wdS tx en he).1 (wdS tx en he).2.2.toNatClampNeg).1, (cpE tx en (wdS tx en he).1 (wdS tx en he).2.2.toNatClampNeg).2.1)
theorem cmP_ex (tx : Nat → Int32) (en he : Nat) : ∃ x : Nat × Bool × Nat × Int32 × Int32 × Int32, cmP0 tx en he = x := ⟨_, rfl⟩
noncomputable def cmP (tx : Nat → Int32) (en he : Nat) : Nat × Bool × Nat × Int32 × Int32 × Int32 := Classical.choose (cmP_ex tx en he)
theorem cmP_eq (tx : Nat → Int32) (en he : Nat) : cmP tx en he = cmP0 tx en he := (Classical.choose_spec (cmP_ex tx en he)).symm
theorem cmP_w {tx : Nat → Int32} {en he h1 k : Nat} (e1 : (wdS tx en he).1 = h1) (h : (wdS tx en he).2.1 = false) (ew : (wdS tx en he).2.2 = nI k) (hk : k < 10) : cmP tx en he = ((cpE tx en h1 k).2.2.1, (cpE tx en h1 k).2.2.2, k, dvE tx en h1 (dkE tx en h1 false (caE k)), (cpE tx en h1 k).1, (cpE tx en h1 k).2.1) := by
  rw [cmP_eq]
  unfold cmP0
  rw [if_neg (by rw [h]; decide), ew, clN (by omega), e1]
theorem cmP_e {tx : Nat → Int32} {en he h1 : Nat} (e1 : (wdS tx en he).1 = h1) (h : (wdS tx en he).2.1 = true) : cmP tx en he = (h1, true, 0, 0, 0, 0) := by
  rw [cmP_eq]
  unfold cmP0
  rw [if_pos h, e1]
/-- a command carried out, if it is to be: what is thrown, numbers, fluxes, the row to work in -/
noncomputable def cmX (tx : Nat → Int32) (en he : Nat) (dg : Bool) (th : Int32) (v : Nat → Int32) (fl nx : Nat → UInt32) : Int32 × (Nat → Int32) × (Nat → UInt32) × (Nat → UInt32) :=
  if (cmP tx en he).2.1 = true ∨ dg = false then (th, v, fl, nx) else (doV v fl nx th (cmP tx en he).2.2.1 (cmP tx en he).2.2.2.1 (cmP tx en he).2.2.2.2.1 (cmP tx en he).2.2.2.2.2).2
theorem cmX_w {tx : Nat → Int32} {en he : Nat} {dg : Bool} {th : Int32} {v : Nat → Int32} {fl nx : Nat → UInt32} (h : (cmP tx en he).2.1 = true) : cmX tx en he dg th v fl nx = (th, v, fl, nx) := if_pos (Or.inl h)
theorem cmX_d {tx : Nat → Int32} {en he : Nat} {dg : Bool} {th : Int32} {v : Nat → Int32} {fl nx : Nat → UInt32} (h : dg = false) : cmX tx en he dg th v fl nx = (th, v, fl, nx) := if_pos (Or.inr h)
theorem cmX_o {tx : Nat → Int32} {en he : Nat} {dg : Bool} {th : Int32} {v : Nat → Int32} {fl nx : Nat → UInt32} {h2 k : Nat} {a b c : Int32} (h : cmP tx en he = (h2, false, k, a, b, c)) (hd : dg = true) : cmX tx en he dg th v fl nx = (doV v fl nx th k a b c).2 := by
  unfold cmX
  rw [h, if_neg]
  rintro (q | q)
  · cases q
  · rw [hd] at q; cases q
theorem okV_cmX {tx : Nat → Int32} {en he : Nat} {dg : Bool} {th : Int32} {v : Nat → Int32} {fl : Nat → UInt32} (nx : Nat → UInt32) (h : okV v fl) : okV (cmX tx en he dg th v fl nx).2.1 (cmX tx en he dg th v fl nx).2.2.1 := by
  unfold cmX
  split
  · exact h
  · exact okV_do h nx th _ _ _ _
theorem bhE_le (tx : Nat → Int32) {en he : Nat} (wr : Bool) (z : Int32) (m : Nat) (h : he ≤ en) (hz : z ≠ -1) : (bhE tx en he wr z m).2.1 ≤ en := by
  have := exE_le tx wr z h hz
  unfold bhE
  split
  · exact this
  · exact dkE_le tx _ m this
theorem cpE_le (tx : Nat → Int32) {en h : Nat} (hh : h ≤ en) (k : Nat) : (cpE tx en h k).2.2.1 ≤ en := by
  have h1 := dkE_le tx false 1 hh
  have h4 := dkE_le tx false 4 hh
  have h2 := dkE_le tx false 1 h1
  have b62 := bhE_le tx false 62 1 h1 (by decide)
  have b61 := bhE_le tx false 61 1 h1 (by decide)
  have b43 := bhE_le tx false 43 4 h1 (by decide)
  have l1 := ltH_le tx false true h1
  have l2 := ltH_le tx false false h2
  match k with
  | 1 => simp only [cpE]; split; exact h1; exact b62
  | 2 => simp only [cpE]; split; exact h1; exact b62
  | 3 => simp only [cpE]; split; exact h1; exact b61
  | 4 => simp only [cpE]; split; exact h1; exact l1
  | 5 =>
    simp only [cpE]
    split
    · exact h1
    · split
      · exact h2
      · exact l2
  | 6 => simp only [cpE]; split; exact h1; exact h2
  | 7 => simp only [cpE]; split; exact h1; exact b43
  | 0 => exact h4
  | k + 8 => exact h4
theorem wdS_nat {tx : Nat → Int32} {en he : Nat} (h : (wdS tx en he).2.1 = false) : ∃ w, w < 10 ∧ (wdS tx en he).2.2 = nI w ∧ (wdS tx en he).1 = he + (waK (w + 1) - waK w) := by
  obtain ⟨w, h1, h2, _, h4, _⟩ := wdE_nat (show (wdE tx en he false).2.1 = false by rw [wdS_eq]; exact h)
  rw [wdS_eq] at h2 h4
  exact ⟨w, h1, h2, h4⟩
theorem wdS_le (tx : Nat → Int32) {en he : Nat} (h : he ≤ en) : (wdS tx en he).1 ≤ en := by
  rw [← wdS_eq]
  exact wdE_le tx false h
theorem cmP_le (tx : Nat → Int32) {en he : Nat} (h : he ≤ en) : (cmP tx en he).1 ≤ en := by
  have hw := wdS_le tx h
  cases q : (wdS tx en he).2.1 with
  | true => rw [cmP_e rfl q]; exact hw
  | false =>
    obtain ⟨w, hw1, ew, _⟩ := wdS_nat q
    rw [cmP_w rfl q ew (by omega)]
    exact cpE_le tx hw w
theorem bhE_ge (tx : Nat → Int32) (en he : Nat) (wr : Bool) (z : Int32) (m : Nat) : he ≤ (bhE tx en he wr z m).2.1 := by
  have : he ≤ (exE tx en he wr z).1 := by
    unfold exE
    split
    · exact Nat.le_refl _
    · split
      · exact Nat.le_succ _
      · exact Nat.le_refl _
  unfold bhE
  split
  · exact this
  · exact Nat.le_trans this (Nat.le_add_right _ _)
theorem ltH_ge (tx : Nat → Int32) (en he : Nat) (wr b : Bool) : he ≤ ltH tx en he wr b := by
  unfold ltH
  split
  · exact Nat.le_refl _
  · exact Nat.le_succ _
theorem cpE_ge (tx : Nat → Int32) (en h k : Nat) : h ≤ (cpE tx en h k).2.2.1 := by
  have h1 : h ≤ h + dkE tx en h false 1 := Nat.le_add_right _ _
  have h2 : h ≤ h + dkE tx en h false 1 + dkE tx en (h + dkE tx en h false 1) false 1 := Nat.le_trans h1 (Nat.le_add_right _ _)
  have b62 := Nat.le_trans h1 (bhE_ge tx en (h + dkE tx en h false 1) false 62 1)
  have b61 := Nat.le_trans h1 (bhE_ge tx en (h + dkE tx en h false 1) false 61 1)
  have b43 := Nat.le_trans h1 (bhE_ge tx en (h + dkE tx en h false 1) false 43 4)
  have l1 := Nat.le_trans h1 (ltH_ge tx en (h + dkE tx en h false 1) false true)
  have l2 := Nat.le_trans h2 (ltH_ge tx en (h + dkE tx en h false 1 + dkE tx en (h + dkE tx en h false 1) false 1) false false)
  match k with
  | 1 => simp only [cpE]; split; exact h1; exact b62
  | 2 => simp only [cpE]; split; exact h1; exact b62
  | 3 => simp only [cpE]; split; exact h1; exact b61
  | 4 => simp only [cpE]; split; exact h1; exact l1
  | 5 =>
    simp only [cpE]
    split
    · exact h1
    · split
      · exact h2
      · exact l2
  | 6 => simp only [cpE]; split; exact h1; exact h2
  | 7 => simp only [cpE]; split; exact h1; exact b43
  | 0 => exact Nat.le_add_right _ _
  | k + 8 => exact Nat.le_add_right _ _
theorem cmP_ge (tx : Nat → Int32) (en he : Nat) (h : (cmP tx en he).2.1 = false) : he ≤ (cmP tx en he).1 := by
  cases q : (wdS tx en he).2.1 with
  | true => rw [cmP_e rfl q] at h; cases h
  | false =>
    obtain ⟨w, hw1, ew, e⟩ := wdS_nat q
    rw [cmP_w rfl q ew (by omega)]
    have := cpE_ge tx en (wdS tx en he).1 w
    show he ≤ (cpE tx en (wdS tx en he).1 w).2.2.1
    omega
/-- commands, one behind the other -/
abbrev CQ := Nat × Bool × Int32 × (Nat → Int32) × (Nat → UInt32) × (Nat → UInt32) × (Nat → Int32)
theorem lfZ_ex (tx : Nat → Int32) (en he : Nat) : ∃ x : Nat → Int32, (fun w => bI (lfE tx en he w (wdN tx en he false))) = x := ⟨_, rfl⟩
noncomputable def lfZ (tx : Nat → Int32) (en he : Nat) : Nat → Int32 := Classical.choose (lfZ_ex tx en he)
theorem lfZ_eq (tx : Nat → Int32) (en he : Nat) : (fun w => bI (lfE tx en he w (wdN tx en he false))) = lfZ tx en he := Classical.choose_spec (lfZ_ex tx en he)
noncomputable def cqC (tx : Nat → Int32) (en : Nat) (dg : Bool) (he : Nat) (th : Int32) (v : Nat → Int32) (fl nx : Nat → UInt32) : CQ :=
  ((cmP tx en he).1, (cmP tx en he).2.1, (cmX tx en he dg th v fl nx).1, (cmX tx en he dg th v fl nx).2.1, (cmX tx en he dg th v fl nx).2.2.1, (cmX tx en he dg th v fl nx).2.2.2, lfZ tx en he)
theorem cqC_1 (tx : Nat → Int32) (en : Nat) (dg : Bool) (he : Nat) (th : Int32) (v : Nat → Int32) (fl nx : Nat → UInt32) : (cqC tx en dg he th v fl nx).1 = (cmP tx en he).1 ∧ (cqC tx en dg he th v fl nx).2.1 = (cmP tx en he).2.1 ∧ (cqC tx en dg he th v fl nx).2.2.2.1 = (cmX tx en he dg th v fl nx).2.1 ∧ (cqC tx en dg he th v fl nx).2.2.2.2.1 = (cmX tx en he dg th v fl nx).2.2.1 := ⟨rfl, rfl, rfl, rfl⟩
noncomputable def cqT (tx : Nat → Int32) (en : Nat) (dg : Bool) (s : CQ) : CQ :=
  if sgn tx en s.1 = 59 then cqC tx en dg (s.1 + 1) s.2.2.1 s.2.2.2.1 s.2.2.2.2.1 s.2.2.2.2.2.1 else (s.1, true, s.2.2)
noncomputable def cqU (tx : Nat → Int32) (en : Nat) (dg : Bool) (th : Int32) (v : Nat → Int32) (fl nx : Nat → UInt32) (m : Nat) : CQ := up (fun _ s => cqT tx en dg s) (cqC tx en dg 0 th v fl nx) m
theorem cqU_s (tx : Nat → Int32) (en : Nat) (dg : Bool) (th : Int32) (v : Nat → Int32) (fl nx : Nat → UInt32) (m : Nat) : cqU tx en dg th v fl nx (m + 1) = cqT tx en dg (cqU tx en dg th v fl nx m) := rfl
/-- more commands are to come -/
def cqG (en : Nat) (s : CQ) : Bool := !s.2.1 && (decide (s.2.2.1 = 0) && decide (s.1 < en))
theorem cqN_ex (tx : Nat → Int32) (en : Nat) (dg : Bool) (th : Int32) (v : Nat → Int32) (fl nx : Nat → UInt32) : ∃ x : Nat, fsN (fun m => !cqG en (cqU tx en dg th v fl nx m)) 61 = x := ⟨_, rfl⟩
noncomputable def cqN (tx : Nat → Int32) (en : Nat) (dg : Bool) (th : Int32) (v : Nat → Int32) (fl nx : Nat → UInt32) : Nat := Classical.choose (cqN_ex tx en dg th v fl nx)
theorem cqN_eq (tx : Nat → Int32) (en : Nat) (dg : Bool) (th : Int32) (v : Nat → Int32) (fl nx : Nat → UInt32) : fsN (fun m => !cqG en (cqU tx en dg th v fl nx m)) 61 = cqN tx en dg th v fl nx := Classical.choose_spec (cqN_ex tx en dg th v fl nx)
noncomputable def cqE (tx : Nat → Int32) (en : Nat) (dg : Bool) (th : Int32) (v : Nat → Int32) (fl nx : Nat → UInt32) : CQ := cqU tx en dg th v fl nx (cqN tx en dg th v fl nx)
theorem cqG_t {en : Nat} {s : CQ} (h : s.2.1 = false) (h2 : s.2.2.1 = 0) (h3 : s.1 < en) : cqG en s = true := by
  unfold cqG
  rw [h, decide_eq_true h2, decide_eq_true h3]
  rfl
theorem cqG_f1 {en : Nat} {s : CQ} (h : s.2.1 = true) : cqG en s = false := by
  unfold cqG
  rw [h]
  rfl
theorem cqG_f2 {en : Nat} {s : CQ} (h : ¬ s.2.2.1 = 0) : cqG en s = false := by
  unfold cqG
  rw [decide_eq_false h]
  simp
theorem cqG_f3 {en : Nat} {s : CQ} (h : ¬ s.1 < en) : cqG en s = false := by
  unfold cqG
  rw [decide_eq_false h]
  simp
theorem cqG_of {en : Nat} {s : CQ} (h : cqG en s = true) : s.2.1 = false ∧ s.2.2.1 = 0 ∧ s.1 < en := by
  unfold cqG at h
  rw [Bool.and_eq_true, Bool.and_eq_true] at h
  refine ⟨?_, of_decide_eq_true h.2.1, of_decide_eq_true h.2.2⟩
  cases q : s.2.1 with
  | false => rfl
  | true => rw [q] at h; exact absurd h.1 (by decide)
theorem okV_cqC {tx : Nat → Int32} {en : Nat} {dg : Bool} {he : Nat} {th : Int32} {v : Nat → Int32} {fl : Nat → UInt32} (nx : Nat → UInt32) (h : okV v fl) : okV (cqC tx en dg he th v fl nx).2.2.2.1 (cqC tx en dg he th v fl nx).2.2.2.2.1 := by
  obtain ⟨_, _, e3, e4⟩ := cqC_1 tx en dg he th v fl nx
  rw [e3, e4]
  exact okV_cmX nx h
theorem cqU_0 (tx : Nat → Int32) (en : Nat) (dg : Bool) (th : Int32) (v : Nat → Int32) (fl nx : Nat → UInt32) : cqU tx en dg th v fl nx 0 = cqC tx en dg 0 th v fl nx := rfl
theorem okV_cqU {tx : Nat → Int32} {en : Nat} {dg : Bool} {th : Int32} {v : Nat → Int32} {fl : Nat → UInt32} (nx : Nat → UInt32) (h : okV v fl) (m : Nat) : okV (cqU tx en dg th v fl nx m).2.2.2.1 (cqU tx en dg th v fl nx m).2.2.2.2.1 := by
  induction m with
  | zero => rw [cqU_0]; exact okV_cqC nx h
  | succ m ih =>
    rw [cqU_s]
    unfold cqT
    split
    · exact okV_cqC _ ih
    · exact ih
theorem cqU_le {tx : Nat → Int32} {en : Nat} {dg : Bool} {th : Int32} {v : Nat → Int32} {fl nx : Nat → UInt32} (m : Nat) : (cqU tx en dg th v fl nx m).1 ≤ en := by
  induction m with
  | zero => rw [cqU_0, (cqC_1 tx en dg 0 th v fl nx).1]; exact cmP_le tx (Nat.zero_le _)
  | succ m ih =>
    rw [cqU_s]
    unfold cqT
    split
    · rename_i q
      rw [(cqC_1 tx en dg _ _ _ _ _).1]
      exact cmP_le tx (sgn_in q (by decide))
    · exact ih
theorem cqU_ge {tx : Nat → Int32} {en : Nat} {dg : Bool} {th : Int32} {v : Nat → Int32} {fl nx : Nat → UInt32} {m : Nat} (h : ∀ c, c < m → cqG en (cqU tx en dg th v fl nx c) = true) (hw : (cqU tx en dg th v fl nx m).2.1 = false) : m ≤ (cqU tx en dg th v fl nx m).1 := by
  induction m with
  | zero => exact Nat.zero_le _
  | succ m ih =>
    have g := cqG_of (h m (Nat.lt_succ_self m))
    have := ih (fun c hc => h c (by omega)) g.1
    rw [cqU_s] at hw ⊢
    generalize cqU tx en dg th v fl nx m = s9 at this hw ⊢
    unfold cqT at hw ⊢
    split at hw
    · rename_i q
      rw [if_pos q]
      rw [(cqC_1 tx en dg _ _ _ _ _).2.1] at hw
      rw [(cqC_1 tx en dg _ _ _ _ _).1]
      have := cmP_ge tx en _ hw
      omega
    · cases hw
theorem cqU_60 {tx : Nat → Int32} {en : Nat} {dg : Bool} {th : Int32} {v : Nat → Int32} {fl nx : Nat → UInt32} {m : Nat} (he : en ≤ 60) (h : ∀ c, c < m → cqG en (cqU tx en dg th v fl nx c) = true) (hg : cqG en (cqU tx en dg th v fl nx m) = true) : m < 60 := by
  have g := cqG_of hg
  have := cqU_ge h g.1
  omega
theorem cqN_at {tx : Nat → Int32} {en : Nat} {dg : Bool} {th : Int32} {v : Nat → Int32} {fl nx : Nat → UInt32} {m : Nat} (h : ∀ c, c < m → cqG en (cqU tx en dg th v fl nx c) = true) (hm : cqG en (cqU tx en dg th v fl nx m) = false) (q : m ≤ 60) : cqN tx en dg th v fl nx = m := (cqN_eq tx en dg th v fl nx).symm.trans (fsN_some (fun c hc => by rw [h c hc]; rfl) (by rw [hm]; rfl) (by omega))
theorem cqT_o {tx : Nat → Int32} {en : Nat} {dg : Bool} {s : CQ} (h : s.2.1 = false) (hz : (exE tx en s.1 s.2.1 59).2 = false) : cqT tx en dg s = cqC tx en dg (exE tx en s.1 s.2.1 59).1 s.2.2.1 s.2.2.2.1 s.2.2.2.2.1 s.2.2.2.2.2.1 := by
  unfold cqT
  by_cases q : sgn tx en s.1 = 59
  · rw [if_pos q, exE_f h q]
  · rw [exE_n h q] at hz; cases hz
theorem cqT_w {tx : Nat → Int32} {en : Nat} {dg : Bool} {s : CQ} (h : s.2.1 = false) (hz : (exE tx en s.1 s.2.1 59).2 = true) : cqT tx en dg s = ((exE tx en s.1 s.2.1 59).1, (exE tx en s.1 s.2.1 59).2, s.2.2) := by
  unfold cqT
  by_cases q : sgn tx en s.1 = 59
  · rw [exE_f h q] at hz; cases hz
  · rw [if_neg q, exE_n h q]
