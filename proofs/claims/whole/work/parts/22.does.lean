/-! The model's commands. -/
/-! ===== the model's commands ===== -/
/-- what the model is, of claims, entries, numbers: ten claims at most, sixteen entries at most -/
abbrev nOf (v : Nat → Int32) : Nat := (v 0).toNatClampNeg
abbrev lOf (v : Nat → Int32) : Nat := (v 4).toNatClampNeg
def okV (v : Nat → Int32) (fl : Nat → UInt32) : Prop := v 0 = nI (nOf v) ∧ nOf v ≤ 10 ∧ v 4 = nI (lOf v) ∧ lOf v ≤ 16 ∧ (∀ c, c < nOf v → okF (fl c)) ∧ lyOk (nOf v) (vl v)
theorem okV_mk {v : Nat → Int32} {fl : Nat → UInt32} {n nl : Nat} (h0 : v 0 = nI n) (hn : n ≤ 10) (h4 : v 4 = nI nl) (hl : nl ≤ 16) (hf : ∀ c, c < n → okF (fl c)) (hy : lyOk n (vl v)) : okV v fl := by
  have e0 : nOf v = n := by unfold nOf; rw [h0]; exact clN (by omega)
  have e4 : lOf v = nl := by unfold lOf; rw [h4]; exact clN (by omega)
  unfold okV
  rw [e0, e4]
  exact ⟨h0, hn, h4, hl, hf, hy⟩
abbrev MR := Int32 × Int32 × (Nat → Int32) × (Nat → UInt32) × (Nat → UInt32)
/-- a change by its number: answer, what is thrown, numbers, fluxes, the row to work in -/
def doM (n nl : Nat) (v : Nat → Int32) (fl nx : Nat → UInt32) (th : Int32) (w : Nat) (x y z : Int32) : MR :=
  match w with
  | 0 => ((opAdds v fl n th x).1, (opAdds v fl n th x).2.1, (opAdds v fl n th x).2.2.1, (opAdds v fl n th x).2.2.2, nx)
  | 1 => ((opSets v n th x y true).1, (opSets v n th x y true).2.1, (opSets v n th x y true).2.2, fl, nx)
  | 2 => ((opSets v n th x y false).1, (opSets v n th x y false).2.1, (opSets v n th x y false).2.2, fl, nx)
  | 3 => ((opMoves v n th x y).1, (opMoves v n th x y).2.1, (opMoves v n th x y).2.2, fl, nx)
  | 4 => ((opRacks v th x y).1, (opRacks v th x y).2.1, (opRacks v th x y).2.2, fl, nx)
  | 5 => ((opIns v nl th x y z).1, (opIns v nl th x y z).2.1, (opIns v nl th x y z).2.2, fl, nx)
  | 6 => ((opDrw v nl th x y).1, (opDrw v nl th x y).2.1, (opDrw v nl th x y).2.2, fl, nx)
  | 7 => ((opExc v fl n nl th x y).1, (opExc v fl n nl th x y).2.1, (opExc v fl n nl th x y).2.2.1, (opExc v fl n nl th x y).2.2.2, nx)
  | 8 => ((opLimits v th x).1, (opLimits v th x).2.1, (opLimits v th x).2.2, fl, nx)
  | _ => ((if rg 1 x 20 = true then (itP n (v, fl, nx, nl) x.toNatClampNeg).1 3 - v 3 else 0), (if rg 1 x 20 = true then th else (1 : Int32)), (if rg 1 x 20 = true then itP n (v, fl, nx, nl) x.toNatClampNeg else (v, fl, nx, nl)).1, (if rg 1 x 20 = true then itP n (v, fl, nx, nl) x.toNatClampNeg else (v, fl, nx, nl)).2.1, (if rg 1 x 20 = true then itP n (v, fl, nx, nl) x.toNatClampNeg else (v, fl, nx, nl)).2.2.1)
def doV (v : Nat → Int32) (fl nx : Nat → UInt32) (th : Int32) (w : Nat) (x y z : Int32) : MR := doM (nOf v) (lOf v) v fl nx th w x y z
theorem vl_upd {v : Nat → Int32} {j : Nat} {x : Int32} {c : Nat} (h : j ≠ 5 + 3 * c + 1) : vl (upd v j x) c = vl v c := by
  show upd v j x (5 + 3 * c + 1) = v (5 + 3 * c + 1)
  rw [upd_at, if_neg (fun e => h e.symm)]
theorem lyOk_cong {n : Nat} {f g : Nat → Int32} (h : lyOk n f) (e : ∀ c, c < n → g c = f c) : lyOk n g := fun c hc => by rw [e c hc]; exact h c hc
theorem vl_lg (v : Nat → Int32) {nl : Nat} (h : nl ≤ 16) (z : Int32) {c : Nat} (hc : c < 10) : vl (lgS v nl z) c = vl v c := lgS_lo v h z (by omega) (by omega)
/-- changes keep what the model is -/
theorem okV_do {v : Nat → Int32} {fl : Nat → UInt32} (h : okV v fl) (nx : Nat → UInt32) (th : Int32) (w : Nat) (x y z : Int32) : okV (doV v fl nx th w x y z).2.2.1 (doV v fl nx th w x y z).2.2.2.1 := by
  have hh := h
  obtain ⟨h0, hn, h4, hl, hf, hy⟩ := h
  unfold doV
  match w with
  | 0 =>
    show okV (opAdds v fl (nOf v) th x).2.2.1 (opAdds v fl (nOf v) th x).2.2.2
    unfold opAdds
    split
    · split
      · exact hh
      · rename_i q
        try dsimp only
        refine okV_mk (n := nOf v + 1) (nl := lOf v) (by first | rfl | (rw [upd_at, if_pos rfl])) (by omega) ?_ hl ?_ ?_
        · try dsimp only
          rw [upd_at, if_neg (by omega), upd_at, if_neg (by omega), upd_at, if_neg (by omega), upd_at, if_neg (by omega)]
          exact h4
        · intro c hc
          show okF (if c = nOf v then FP.fconst0 else fl c)
          split
          · exact okF_0
          · exact hf c (by omega)
        · intro c hc
          by_cases e : c = nOf v
          · subst e
            have e2 : vl (upd (upd (upd (upd v (5 + 3 * nOf v + 0) x) (5 + 3 * nOf v + 1) 0) (5 + 3 * nOf v + 2) 0) 0 (nI (nOf v + 1))) (nOf v) = 0 := by
              rw [vl_upd (by omega), vl_upd (by omega)]
              show upd _ (5 + 3 * nOf v + 1) 0 (5 + 3 * nOf v + 1) = 0
              rw [upd_at, if_pos rfl]
            show vl _ _ = nI (vl _ _).toNatClampNeg ∧ _
            rw [e2]
            exact ⟨rfl, by decide⟩
          · have e2 : vl (upd (upd (upd (upd v (5 + 3 * nOf v + 0) x) (5 + 3 * nOf v + 1) 0) (5 + 3 * nOf v + 2) 0) 0 (nI (nOf v + 1))) c = vl v c := by
              rw [vl_upd (by omega), vl_upd (by omega), vl_upd (by omega), vl_upd (by omega)]
            show vl _ _ = nI (vl _ _).toNatClampNeg ∧ _
            rw [e2]
            exact hy c (by omega)
    · exact hh
  | 1 =>
    show okV (opSets v (nOf v) th x y true).2.2 fl
    unfold opSets
    split
    · dsimp only
      split
      · exact hh
      · try dsimp only
        exact okV_mk (n := nOf v) (nl := lOf v) (by rw [upd_at, if_neg (by omega)]; exact h0) hn (by rw [upd_at, if_neg (by omega)]; exact h4) hl hf (lyOk_cong hy (fun c _ => vl_upd (by omega)))
    · exact hh
  | 2 =>
    show okV (opSets v (nOf v) th x y false).2.2 fl
    unfold opSets
    split
    · dsimp only
      split
      · exact hh
      · try dsimp only
        exact okV_mk (n := nOf v) (nl := lOf v) (by rw [upd_at, if_neg (by omega)]; exact h0) hn (by rw [upd_at, if_neg (by omega)]; exact h4) hl hf (lyOk_cong hy (fun c _ => vl_upd (by omega)))
    · exact hh
  | 3 =>
    show okV (opMoves v (nOf v) th x y).2.2 fl
    unfold opMoves
    split
    · rename_i q
      try dsimp only
      refine okV_mk (n := nOf v) (nl := lOf v) (by rw [upd_at, if_neg (by omega)]; exact h0) hn (by rw [upd_at, if_neg (by omega)]; exact h4) hl hf ?_
      intro c hc
      by_cases e : c = x.toNatClampNeg
      · have e2 : vl (upd v (5 + 3 * x.toNatClampNeg + 1) y) c = y := by
          show upd _ _ _ (5 + 3 * c + 1) = y
          rw [upd_at, if_pos (by omega)]
        show vl _ _ = nI (vl _ _).toNatClampNeg ∧ _
        rw [e2]
        obtain ⟨j, hj, rfl⟩ := rg_of (m := 3) (by decide) q.2
        rw [clN (by omega)]
        exact ⟨rfl, by omega⟩
      · have e2 : vl (upd v (5 + 3 * x.toNatClampNeg + 1) y) c = vl v c := vl_upd (by omega)
        show vl _ _ = nI (vl _ _).toNatClampNeg ∧ _
        rw [e2]
        exact hy c hc
    · exact hh
  | 4 =>
    show okV (opRacks v th x y).2.2 fl
    unfold opRacks
    split
    · split
      · split
        · try dsimp only
          exact okV_mk (n := nOf v) (nl := lOf v) (by rw [upd_at, if_neg (by omega)]; exact h0) hn (by rw [upd_at, if_neg (by omega)]; exact h4) hl hf (lyOk_cong hy (fun c hc => vl_upd (by omega)))
        · exact hh
      · exact hh
    · exact hh
  | 5 =>
    show okV (opIns v (lOf v) th x y z).2.2 fl
    unfold opIns
    split
    · split
      · split
        · split
          · try dsimp only
            exact okV_mk (n := nOf v) (nl := min (lOf v + 1) 16) (by rw [lgS_lo _ hl _ (by omega) (by omega), upd_at, if_neg (by omega)]; exact h0) hn (lgS_4 _ hl _) (Nat.min_le_right _ _) hf (lyOk_cong hy (fun c hc => by rw [vl_lg _ hl _ (by omega)]; exact vl_upd (by omega)))
          · exact hh
        · exact hh
      · exact hh
    · exact hh
  | 6 =>
    show okV (opDrw v (lOf v) th x y).2.2 fl
    unfold opDrw
    split
    · split
      · exact hh
      · try dsimp only
        exact okV_mk (n := nOf v) (nl := min (lOf v + 1) 16) (by rw [lgS_lo _ hl _ (by omega) (by omega), upd_at, if_neg (by omega)]; exact h0) hn (lgS_4 _ hl _) (Nat.min_le_right _ _) hf (lyOk_cong hy (fun c hc => by rw [vl_lg _ hl _ (by omega)]; exact vl_upd (by omega)))
    · exact hh
  | 7 =>
    show okV (opExc v fl (nOf v) (lOf v) th x y).2.2.1 (opExc v fl (nOf v) (lOf v) th x y).2.2.2
    unfold opExc
    split
    · rename_i q
      split
      · rename_i q2
        try dsimp only
        refine okV_mk (n := nOf v) (nl := min (lOf v + 1) 16) (by rw [lgS_lo _ hl _ (by omega) (by omega)]; exact h0) hn (lgS_4 _ hl _) (Nat.min_le_right _ _) ?_ (lyOk_cong hy (fun c hc => vl_lg _ hl _ (by omega)))
        intro c hc
        show okF (if c = x.toNatClampNeg then _ else fl c)
        split
        · rename_i e
          obtain ⟨j, hj, rfl⟩ := inC_of hn q
          rw [clN (by omega)]
          have ham := of_decide_eq_true (show decide (1 ≤ y ∧ y ≤ 1000) = true from q2)
          exact okF_cap (okF_add (hf j hj) (okF_am ham.1 ham.2))
        · exact hf c hc
      · exact hh
    · exact hh
  | 8 =>
    show okV (opLimits v th x).2.2 fl
    unfold opLimits
    split
    · try dsimp only
      exact okV_mk (n := nOf v) (nl := lOf v) (by rw [upd_at, if_neg (by omega)]; exact h0) hn (by rw [upd_at, if_neg (by omega)]; exact h4) hl hf (lyOk_cong hy (fun c _ => vl_upd (by omega)))
    · exact hh
  | w + 9 =>
    show okV (if rg 1 x 20 = true then itP (nOf v) (v, fl, nx, lOf v) x.toNatClampNeg else (v, fl, nx, lOf v)).1 (if rg 1 x 20 = true then itP (nOf v) (v, fl, nx, lOf v) x.toNatClampNeg else (v, fl, nx, lOf v)).2.1
    split
    · obtain ⟨a0, a4, al, af, ay⟩ := okM_itP hn (s := (v, fl, nx, lOf v)) ⟨h0, h4, hl, hf, hy⟩ x.toNatClampNeg
      try dsimp only
      exact okV_mk a0 hn a4 al af ay
    · exact hh
def caE (w : Nat) : Nat := if w = 0 ∨ 7 < w then 4 else 1
/-- what stands behind a word: two numbers or letters more, what follows, whether it is wrong -/
def cpE (tx : Nat → Int32) (en h : Nat) : Nat → Int32 × Int32 × Nat × Bool
  | 1 => if dwE tx en h false 1 = true then (0, 0, h + dkE tx en h false 1, true) else ((bhE tx en (h + dkE tx en h false 1) false 62 1).1, 0, (bhE tx en (h + dkE tx en h false 1) false 62 1).2)
  | 2 => if dwE tx en h false 1 = true then (0, 0, h + dkE tx en h false 1, true) else ((bhE tx en (h + dkE tx en h false 1) false 62 1).1, 0, (bhE tx en (h + dkE tx en h false 1) false 62 1).2)
  | 3 => if dwE tx en h false 1 = true then (0, 0, h + dkE tx en h false 1, true) else ((bhE tx en (h + dkE tx en h false 1) false 61 1).1, 0, (bhE tx en (h + dkE tx en h false 1) false 61 1).2)
  | 4 => if dwE tx en h false 1 = true then (0, 0, h + dkE tx en h false 1, true) else (sgn tx en (h + dkE tx en h false 1), 0, ltH tx en (h + dkE tx en h false 1) false true, ltW tx en (h + dkE tx en h false 1) false true)
  | 5 => if dwE tx en h false 1 = true then (0, 0, h + dkE tx en h false 1, true) else if dwE tx en (h + dkE tx en h false 1) false 1 = true then (dvE tx en (h + dkE tx en h false 1) (dkE tx en (h + dkE tx en h false 1) false 1), 0, h + dkE tx en h false 1 + dkE tx en (h + dkE tx en h false 1) false 1, true) else (dvE tx en (h + dkE tx en h false 1) (dkE tx en (h + dkE tx en h false 1) false 1), sgn tx en (h + dkE tx en h false 1 + dkE tx en (h + dkE tx en h false 1) false 1), ltH tx en (h + dkE tx en h false 1 + dkE tx en (h + dkE tx en h false 1) false 1) false false, ltW tx en (h + dkE tx en h false 1 + dkE tx en (h + dkE tx en h false 1) false 1) false false)
  | 6 => if dwE tx en h false 1 = true then (0, 0, h + dkE tx en h false 1, true) else (dvE tx en (h + dkE tx en h false 1) (dkE tx en (h + dkE tx en h false 1) false 1), 0, h + dkE tx en h false 1 + dkE tx en (h + dkE tx en h false 1) false 1, dwE tx en (h + dkE tx en h false 1) false 1)
  | 7 => if dwE tx en h false 1 = true then (0, 0, h + dkE tx en h false 1, true) else ((bhE tx en (h + dkE tx en h false 1) false 43 4).1, 0, (bhE tx en (h + dkE tx en h false 1) false 43 4).2)
  | _ => (0, 0, h + dkE tx en h false 4, dwE tx en h false 4)
/-- the word, sealed -/
theorem wdS_ex (tx : Nat → Int32) (en he : Nat) : ∃ x : Nat × Bool × Int32, wdE tx en he false = x := ⟨_, rfl⟩
noncomputable def wdS (tx : Nat → Int32) (en he : Nat) : Nat × Bool × Int32 := Classical.choose (wdS_ex tx en he)
theorem wdS_eq (tx : Nat → Int32) (en he : Nat) : wdE tx en he false = wdS tx en he := Classical.choose_spec (wdS_ex tx en he)
/-- a command: what follows, whether it is wrong, the word, its numbers -/
noncomputable def cmP0 (tx : Nat → Int32) (en he : Nat) : Nat × Bool × Nat × Int32 × Int32 × Int32 :=
  if (wdS tx en he).2.1 = true then ((wdS tx en he).1, true, 0, 0, 0, 0) else
    ((cpE tx en (wdS tx en he).1 (wdS tx en he).2.2.toNatClampNeg).2.2.1, (cpE tx en (wdS tx en he).1 (wdS tx en he).2.2.toNatClampNeg).2.2.2, (wdS tx en he).2.2.toNatClampNeg,
      dvE tx en (wdS tx en he).1 (dkE tx en (wdS tx en he).1 false (caE (wdS tx en he).2.2.toNatClampNeg)), (cpE tx en (wdS tx en he).1 (wdS tx en he).2.2.toNatClampNeg).1, (cpE tx en (wdS tx en he).1 (wdS tx en he).2.2.toNatClampNeg).2.1)
theorem cmP_ex (tx : Nat → Int32) (en he : Nat) : ∃ x : Nat × Bool × Nat × Int32 × Int32 × Int32, cmP0 tx en he = x := ⟨_, rfl⟩
noncomputable def cmP (tx : Nat → Int32) (en he : Nat) : Nat × Bool × Nat × Int32 × Int32 × Int32 := Classical.choose (cmP_ex tx en he)
theorem cmP_eq (tx : Nat → Int32) (en he : Nat) : cmP tx en he = cmP0 tx en he := (Classical.choose_spec (cmP_ex tx en he)).symm
theorem cmP_w {tx : Nat → Int32} {en he h1 k : Nat} (e1 : (wdS tx en he).1 = h1) (h : (wdS tx en he).2.1 = false) (ew : (wdS tx en he).2.2 = nI k) (hk : k < 10) : cmP tx en he = ((cpE tx en h1 k).2.2.1, (cpE tx en h1 k).2.2.2, k, dvE tx en h1 (dkE tx en h1 false (caE k)), (cpE tx en h1 k).1, (cpE tx en h1 k).2.1) := by
  rw [cmP_eq]
  unfold cmP0
  rw [if_neg (by rw [h]; decide), ew, clN (by omega), e1]
theorem cmP_e {tx : Nat → Int32} {en he h1 : Nat} (e1 : (wdS tx en he).1 = h1) (h : (wdS tx en he).2.1 = true) : cmP tx en he = (h1, true, 0, 0, 0, 0) := by
  rw [cmP_eq]
  unfold cmP0
  rw [if_pos h, e1]
/-- a command carried out, if it is to be: what is thrown, numbers, fluxes, the row to work in -/
noncomputable def cmX (tx : Nat → Int32) (en he : Nat) (dg : Bool) (th : Int32) (v : Nat → Int32) (fl nx : Nat → UInt32) : Int32 × (Nat → Int32) × (Nat → UInt32) × (Nat → UInt32) :=
  if (cmP tx en he).2.1 = true ∨ dg = false then (th, v, fl, nx) else (doV v fl nx th (cmP tx en he).2.2.1 (cmP tx en he).2.2.2.1 (cmP tx en he).2.2.2.2.1 (cmP tx en he).2.2.2.2.2).2
theorem cmX_w {tx : Nat → Int32} {en he : Nat} {dg : Bool} {th : Int32} {v : Nat → Int32} {fl nx : Nat → UInt32} (h : (cmP tx en he).2.1 = true) : cmX tx en he dg th v fl nx = (th, v, fl, nx) := if_pos (Or.inl h)
theorem cmX_d {tx : Nat → Int32} {en he : Nat} {dg : Bool} {th : Int32} {v : Nat → Int32} {fl nx : Nat → UInt32} (h : dg = false) : cmX tx en he dg th v fl nx = (th, v, fl, nx) := if_pos (Or.inr h)
theorem cmX_o {tx : Nat → Int32} {en he : Nat} {dg : Bool} {th : Int32} {v : Nat → Int32} {fl nx : Nat → UInt32} {h2 k : Nat} {a b c : Int32} (h : cmP tx en he = (h2, false, k, a, b, c)) (hd : dg = true) : cmX tx en he dg th v fl nx = (doV v fl nx th k a b c).2 := by
  unfold cmX
  rw [h, if_neg]
  rintro (q | q)
  · cases q
  · rw [hd] at q; cases q
theorem okV_cmX {tx : Nat → Int32} {en he : Nat} {dg : Bool} {th : Int32} {v : Nat → Int32} {fl : Nat → UInt32} (nx : Nat → UInt32) (h : okV v fl) : okV (cmX tx en he dg th v fl nx).2.1 (cmX tx en he dg th v fl nx).2.2.1 := by
  unfold cmX
  split
  · exact h
  · exact okV_do h nx th _ _ _ _
theorem bhE_le (tx : Nat → Int32) {en he : Nat} (wr : Bool) (z : Int32) (m : Nat) (h : he ≤ en) (hz : z ≠ -1) : (bhE tx en he wr z m).2.1 ≤ en := by
  have := exE_le tx wr z h hz
  unfold bhE
  split
  · exact this
  · exact dkE_le tx _ m this
theorem cpE_le (tx : Nat → Int32) {en h : Nat} (hh : h ≤ en) (k : Nat) : (cpE tx en h k).2.2.1 ≤ en := by
  have h1 := dkE_le tx false 1 hh
  have h4 := dkE_le tx false 4 hh
  have h2 := dkE_le tx false 1 h1
  have b62 := bhE_le tx false 62 1 h1 (by decide)
  have b61 := bhE_le tx false 61 1 h1 (by decide)
  have b43 := bhE_le tx false 43 4 h1 (by decide)
  have l1 := ltH_le tx false true h1
  have l2 := ltH_le tx false false h2
  match k with
  | 1 => simp only [cpE]; split; exact h1; exact b62
  | 2 => simp only [cpE]; split; exact h1; exact b62
  | 3 => simp only [cpE]; split; exact h1; exact b61
  | 4 => simp only [cpE]; split; exact h1; exact l1
  | 5 =>
    simp only [cpE]
    split
    · exact h1
    · split
      · exact h2
      · exact l2
  | 6 => simp only [cpE]; split; exact h1; exact h2
  | 7 => simp only [cpE]; split; exact h1; exact b43
  | 0 => exact h4
  | k + 8 => exact h4
theorem wdS_nat {tx : Nat → Int32} {en he : Nat} (h : (wdS tx en he).2.1 = false) : ∃ w, w < 10 ∧ (wdS tx en he).2.2 = nI w ∧ (wdS tx en he).1 = he + (waK (w + 1) - waK w) := by
  obtain ⟨w, h1, h2, _, h4, _⟩ := wdE_nat (show (wdE tx en he false).2.1 = false by rw [wdS_eq]; exact h)
  rw [wdS_eq] at h2 h4
  exact ⟨w, h1, h2, h4⟩
theorem wdS_le (tx : Nat → Int32) {en he : Nat} (h : he ≤ en) : (wdS tx en he).1 ≤ en := by
  rw [← wdS_eq]
  exact wdE_le tx false h
theorem cmP_le (tx : Nat → Int32) {en he : Nat} (h : he ≤ en) : (cmP tx en he).1 ≤ en := by
  have hw := wdS_le tx h
  cases q : (wdS tx en he).2.1 with
  | true => rw [cmP_e rfl q]; exact hw
  | false =>
    obtain ⟨w, hw1, ew, _⟩ := wdS_nat q
    rw [cmP_w rfl q ew (by omega)]
    exact cpE_le tx hw w
theorem bhE_ge (tx : Nat → Int32) (en he : Nat) (wr : Bool) (z : Int32) (m : Nat) : he ≤ (bhE tx en he wr z m).2.1 := by
  have : he ≤ (exE tx en he wr z).1 := by
    unfold exE
    split
    · exact Nat.le_refl _
    · split
      · exact Nat.le_succ _
      · exact Nat.le_refl _
  unfold bhE
  split
  · exact this
  · exact Nat.le_trans this (Nat.le_add_right _ _)
theorem ltH_ge (tx : Nat → Int32) (en he : Nat) (wr b : Bool) : he ≤ ltH tx en he wr b := by
  unfold ltH
  split
  · exact Nat.le_refl _
  · exact Nat.le_succ _
theorem cpE_ge (tx : Nat → Int32) (en h k : Nat) : h ≤ (cpE tx en h k).2.2.1 := by
  have h1 : h ≤ h + dkE tx en h false 1 := Nat.le_add_right _ _
  have h2 : h ≤ h + dkE tx en h false 1 + dkE tx en (h + dkE tx en h false 1) false 1 := Nat.le_trans h1 (Nat.le_add_right _ _)
  have b62 := Nat.le_trans h1 (bhE_ge tx en (h + dkE tx en h false 1) false 62 1)
  have b61 := Nat.le_trans h1 (bhE_ge tx en (h + dkE tx en h false 1) false 61 1)
  have b43 := Nat.le_trans h1 (bhE_ge tx en (h + dkE tx en h false 1) false 43 4)
  have l1 := Nat.le_trans h1 (ltH_ge tx en (h + dkE tx en h false 1) false true)
  have l2 := Nat.le_trans h2 (ltH_ge tx en (h + dkE tx en h false 1 + dkE tx en (h + dkE tx en h false 1) false 1) false false)
  match k with
  | 1 => simp only [cpE]; split; exact h1; exact b62
  | 2 => simp only [cpE]; split; exact h1; exact b62
  | 3 => simp only [cpE]; split; exact h1; exact b61
  | 4 => simp only [cpE]; split; exact h1; exact l1
  | 5 =>
    simp only [cpE]
    split
    · exact h1
    · split
      · exact h2
      · exact l2
  | 6 => simp only [cpE]; split; exact h1; exact h2
  | 7 => simp only [cpE]; split; exact h1; exact b43
  | 0 => exact Nat.le_add_right _ _
  | k + 8 => exact Nat.le_add_right _ _
theorem cmP_ge (tx : Nat → Int32) (en he : Nat) (h : (cmP tx en he).2.1 = false) : he ≤ (cmP tx en he).1 := by
  cases q : (wdS tx en he).2.1 with
  | true => rw [cmP_e rfl q] at h; cases h
  | false =>
    obtain ⟨w, hw1, ew, e⟩ := wdS_nat q
    rw [cmP_w rfl q ew (by omega)]
    have := cpE_ge tx en (wdS tx en he).1 w
    show he ≤ (cpE tx en (wdS tx en he).1 w).2.2.1
    omega
/-- commands, one behind the other -/
abbrev CQ := Nat × Bool × Int32 × (Nat → Int32) × (Nat → UInt32) × (Nat → UInt32) × (Nat → Int32)
theorem lfZ_ex (tx : Nat → Int32) (en he : Nat) : ∃ x : Nat → Int32, (fun w => bI (lfE tx en he w (wdN tx en he false))) = x := ⟨_, rfl⟩
noncomputable def lfZ (tx : Nat → Int32) (en he : Nat) : Nat → Int32 := Classical.choose (lfZ_ex tx en he)
theorem lfZ_eq (tx : Nat → Int32) (en he : Nat) : (fun w => bI (lfE tx en he w (wdN tx en he false))) = lfZ tx en he := Classical.choose_spec (lfZ_ex tx en he)
noncomputable def cqC (tx : Nat → Int32) (en : Nat) (dg : Bool) (he : Nat) (th : Int32) (v : Nat → Int32) (fl nx : Nat → UInt32) : CQ :=
  ((cmP tx en he).1, (cmP tx en he).2.1, (cmX tx en he dg th v fl nx).1, (cmX tx en he dg th v fl nx).2.1, (cmX tx en he dg th v fl nx).2.2.1, (cmX tx en he dg th v fl nx).2.2.2, lfZ tx en he)
theorem cqC_1 (tx : Nat → Int32) (en : Nat) (dg : Bool) (he : Nat) (th : Int32) (v : Nat → Int32) (fl nx : Nat → UInt32) : (cqC tx en dg he th v fl nx).1 = (cmP tx en he).1 ∧ (cqC tx en dg he th v fl nx).2.1 = (cmP tx en he).2.1 ∧ (cqC tx en dg he th v fl nx).2.2.2.1 = (cmX tx en he dg th v fl nx).2.1 ∧ (cqC tx en dg he th v fl nx).2.2.2.2.1 = (cmX tx en he dg th v fl nx).2.2.1 := ⟨rfl, rfl, rfl, rfl⟩
noncomputable def cqT (tx : Nat → Int32) (en : Nat) (dg : Bool) (s : CQ) : CQ :=
  if sgn tx en s.1 = 59 then cqC tx en dg (s.1 + 1) s.2.2.1 s.2.2.2.1 s.2.2.2.2.1 s.2.2.2.2.2.1 else (s.1, true, s.2.2)
noncomputable def cqU (tx : Nat → Int32) (en : Nat) (dg : Bool) (th : Int32) (v : Nat → Int32) (fl nx : Nat → UInt32) (m : Nat) : CQ := up (fun _ s => cqT tx en dg s) (cqC tx en dg 0 th v fl nx) m
theorem cqU_s (tx : Nat → Int32) (en : Nat) (dg : Bool) (th : Int32) (v : Nat → Int32) (fl nx : Nat → UInt32) (m : Nat) : cqU tx en dg th v fl nx (m + 1) = cqT tx en dg (cqU tx en dg th v fl nx m) := rfl
/-- more commands are to come -/
def cqG (en : Nat) (s : CQ) : Bool := !s.2.1 && (decide (s.2.2.1 = 0) && decide (s.1 < en))
theorem cqN_ex (tx : Nat → Int32) (en : Nat) (dg : Bool) (th : Int32) (v : Nat → Int32) (fl nx : Nat → UInt32) : ∃ x : Nat, fsN (fun m => !cqG en (cqU tx en dg th v fl nx m)) 61 = x := ⟨_, rfl⟩
noncomputable def cqN (tx : Nat → Int32) (en : Nat) (dg : Bool) (th : Int32) (v : Nat → Int32) (fl nx : Nat → UInt32) : Nat := Classical.choose (cqN_ex tx en dg th v fl nx)
theorem cqN_eq (tx : Nat → Int32) (en : Nat) (dg : Bool) (th : Int32) (v : Nat → Int32) (fl nx : Nat → UInt32) : fsN (fun m => !cqG en (cqU tx en dg th v fl nx m)) 61 = cqN tx en dg th v fl nx := Classical.choose_spec (cqN_ex tx en dg th v fl nx)
noncomputable def cqE (tx : Nat → Int32) (en : Nat) (dg : Bool) (th : Int32) (v : Nat → Int32) (fl nx : Nat → UInt32) : CQ := cqU tx en dg th v fl nx (cqN tx en dg th v fl nx)
theorem cqG_t {en : Nat} {s : CQ} (h : s.2.1 = false) (h2 : s.2.2.1 = 0) (h3 : s.1 < en) : cqG en s = true := by
  unfold cqG
  rw [h, decide_eq_true h2, decide_eq_true h3]
  rfl
theorem cqG_f1 {en : Nat} {s : CQ} (h : s.2.1 = true) : cqG en s = false := by
  unfold cqG
  rw [h]
  rfl
theorem cqG_f2 {en : Nat} {s : CQ} (h : ¬ s.2.2.1 = 0) : cqG en s = false := by
  unfold cqG
  rw [decide_eq_false h]
  simp
theorem cqG_f3 {en : Nat} {s : CQ} (h : ¬ s.1 < en) : cqG en s = false := by
  unfold cqG
  rw [decide_eq_false h]
  simp
theorem cqG_of {en : Nat} {s : CQ} (h : cqG en s = true) : s.2.1 = false ∧ s.2.2.1 = 0 ∧ s.1 < en := by
  unfold cqG at h
  rw [Bool.and_eq_true, Bool.and_eq_true] at h
  refine ⟨?_, of_decide_eq_true h.2.1, of_decide_eq_true h.2.2⟩
  cases q : s.2.1 with
  | false => rfl
  | true => rw [q] at h; exact absurd h.1 (by decide)
theorem okV_cqC {tx : Nat → Int32} {en : Nat} {dg : Bool} {he : Nat} {th : Int32} {v : Nat → Int32} {fl : Nat → UInt32} (nx : Nat → UInt32) (h : okV v fl) : okV (cqC tx en dg he th v fl nx).2.2.2.1 (cqC tx en dg he th v fl nx).2.2.2.2.1 := by
  obtain ⟨_, _, e3, e4⟩ := cqC_1 tx en dg he th v fl nx
  rw [e3, e4]
  exact okV_cmX nx h
theorem cqU_0 (tx : Nat → Int32) (en : Nat) (dg : Bool) (th : Int32) (v : Nat → Int32) (fl nx : Nat → UInt32) : cqU tx en dg th v fl nx 0 = cqC tx en dg 0 th v fl nx := rfl
theorem okV_cqU {tx : Nat → Int32} {en : Nat} {dg : Bool} {th : Int32} {v : Nat → Int32} {fl : Nat → UInt32} (nx : Nat → UInt32) (h : okV v fl) (m : Nat) : okV (cqU tx en dg th v fl nx m).2.2.2.1 (cqU tx en dg th v fl nx m).2.2.2.2.1 := by
  induction m with
  | zero => rw [cqU_0]; exact okV_cqC nx h
  | succ m ih =>
    rw [cqU_s]
    unfold cqT
    split
    · exact okV_cqC _ ih
    · exact ih
theorem cqU_le {tx : Nat → Int32} {en : Nat} {dg : Bool} {th : Int32} {v : Nat → Int32} {fl nx : Nat → UInt32} (m : Nat) : (cqU tx en dg th v fl nx m).1 ≤ en := by
  induction m with
  | zero => rw [cqU_0, (cqC_1 tx en dg 0 th v fl nx).1]; exact cmP_le tx (Nat.zero_le _)
  | succ m ih =>
    rw [cqU_s]
    unfold cqT
    split
    · rename_i q
      rw [(cqC_1 tx en dg _ _ _ _ _).1]
      exact cmP_le tx (sgn_in q (by decide))
    · exact ih
theorem cqU_ge {tx : Nat → Int32} {en : Nat} {dg : Bool} {th : Int32} {v : Nat → Int32} {fl nx : Nat → UInt32} {m : Nat} (h : ∀ c, c < m → cqG en (cqU tx en dg th v fl nx c) = true) (hw : (cqU tx en dg th v fl nx m).2.1 = false) : m ≤ (cqU tx en dg th v fl nx m).1 := by
  induction m with
  | zero => exact Nat.zero_le _
  | succ m ih =>
    have g := cqG_of (h m (Nat.lt_succ_self m))
    have := ih (fun c hc => h c (by omega)) g.1
    rw [cqU_s] at hw ⊢
    generalize cqU tx en dg th v fl nx m = s9 at this hw ⊢
    unfold cqT at hw ⊢
    split at hw
    · rename_i q
      rw [if_pos q]
      rw [(cqC_1 tx en dg _ _ _ _ _).2.1] at hw
      rw [(cqC_1 tx en dg _ _ _ _ _).1]
      have := cmP_ge tx en _ hw
      omega
    · cases hw
theorem cqU_60 {tx : Nat → Int32} {en : Nat} {dg : Bool} {th : Int32} {v : Nat → Int32} {fl nx : Nat → UInt32} {m : Nat} (he : en ≤ 60) (h : ∀ c, c < m → cqG en (cqU tx en dg th v fl nx c) = true) (hg : cqG en (cqU tx en dg th v fl nx m) = true) : m < 60 := by
  have g := cqG_of hg
  have := cqU_ge h g.1
  omega
theorem cqN_at {tx : Nat → Int32} {en : Nat} {dg : Bool} {th : Int32} {v : Nat → Int32} {fl nx : Nat → UInt32} {m : Nat} (h : ∀ c, c < m → cqG en (cqU tx en dg th v fl nx c) = true) (hm : cqG en (cqU tx en dg th v fl nx m) = false) (q : m ≤ 60) : cqN tx en dg th v fl nx = m := (cqN_eq tx en dg th v fl nx).symm.trans (fsN_some (fun c hc => by rw [h c hc]; rfl) (by rw [hm]; rfl) (by omega))
theorem cqT_o {tx : Nat → Int32} {en : Nat} {dg : Bool} {s : CQ} (h : s.2.1 = false) (hz : (exE tx en s.1 s.2.1 59).2 = false) : cqT tx en dg s = cqC tx en dg (exE tx en s.1 s.2.1 59).1 s.2.2.1 s.2.2.2.1 s.2.2.2.2.1 s.2.2.2.2.2.1 := by
  unfold cqT
  by_cases q : sgn tx en s.1 = 59
  · rw [if_pos q, exE_f h q]
  · rw [exE_n h q] at hz; cases hz
theorem cqT_w {tx : Nat → Int32} {en : Nat} {dg : Bool} {s : CQ} (h : s.2.1 = false) (hz : (exE tx en s.1 s.2.1 59).2 = true) : cqT tx en dg s = ((exE tx en s.1 s.2.1 59).1, (exE tx en s.1 s.2.1 59).2, s.2.2) := by
  unfold cqT
  by_cases q : sgn tx en s.1 = 59
  · rw [exE_f h q] at hz; cases hz
  · rw [if_neg q, exE_n h q]

set_option maxHeartbeats 4000000 in
set_option maxRecDepth 100000 in
theorem m_X13_does (l9 : Launch) (D : va_G) (k : Nat → ClassId) (sz : Nat) (q : Nat → Nat) (th ea fa : Int32) (ch tn he en ln : Nat) (sv wr dg : Bool) (v : Nat → Int32) (fl nx : Nat → UInt32) (n nl w9 : Nat) (x y z : Int32) (hn : n ≤ 10) (hv0 : v 0 = nI n) (hf : ∀ c, c < n → okF (fl c)) (hly : lyOk n (vl v)) (hnl : nl ≤ 16) (hv4 : v 4 = nI nl) (hw9 : w9 < 10) : Met l9 yX13_does wsX13_does ({ frames := 4, cells := 0, slots := 0, locals := 90 }) (WPc D k [.ref (q 0), .int (nI w9), .int x, .int y, .int z] (bMO k q th ea fa ch tn he en ln sv wr dg ++ bI83 k (q 1) v ++ bF10 k (q 6) fl ++ bF10 k (q 10) nx) sz) (WI D k (bMO k q ((doM n nl v fl nx th w9 x y z).2.1) ea fa ch tn he en ln sv wr dg ++ bI83 k (q 1) ((doM n nl v fl nx th w9 x y z).2.2.1) ++ bF10 k (q 6) ((doM n nl v fl nx th w9 x y z).2.2.2.1) ++ bF10 k (q 10) ((doM n nl v fl nx th w9 x y z).2.2.2.2)) ((doM n nl v fl nx th w9 x y z).1) (va_A (bMO k q th ea fa ch tn he en ln sv wr dg ++ bI83 k (q 1) v ++ bF10 k (q 6) fl ++ bF10 k (q 10) nx) sz)) 0 0 (va_A (bMO k q th ea fa ch tn he en ln sv wr dg ++ bI83 k (q 1) v ++ bF10 k (q 6) fl ++ bF10 k (q 10) nx) sz) := by
  refine wMet (y := yX13_does) (cc := cX13_does) (maxL := 5) (ret := (some .int)) (Qc := fun A => WI D k (bMO k q ((doM n nl v fl nx th w9 x y z).2.1) ea fa ch tn he en ln sv wr dg ++ bI83 k (q 1) ((doM n nl v fl nx th w9 x y z).2.2.1) ++ bF10 k (q 6) ((doM n nl v fl nx th w9 x y z).2.2.2.1) ++ bF10 k (q 10) ((doM n nl v fl nx th w9 x y z).2.2.2.2)) ((doM n nl v fl nx th w9 x y z).1) A) [.ref (q 0), .int (nI w9), .int x, .int y, .int z] (by decide) rfl (Nat.le_of_ble_eq_true rfl) ?_
  intro p9 e9 s9 m9 bl9 me9 c9 ls A H hF hr hlocks hP hK hN hD hA hS hl hin
  have hl : lv_has ls 5 [(0, .ref (q 0)), (1, .int (nI w9)), (2, .int x), (3, .int y), (4, .int z)] := hl
  obtain ⟨hx, hb, hml, hown, hts⟩ := id hF
  refine lv_iload_n hx hb dX13_does_0 rfl (lv_at hl 1 rfl) ?_
  rcases (show w9 = 0 ∨ w9 = 1 ∨ w9 = 2 ∨ w9 = 3 ∨ w9 = 4 ∨ w9 = 5 ∨ w9 = 6 ∨ w9 = 7 ∨ w9 = 8 ∨ w9 = 9 by omega) with rfl | rfl | rfl | rfl | rfl | rfl | rfl | rfl | rfl | rfl
  · skip
    have hl : lv_has ls 5 [(0, .ref (q 0)), (1, .int 0), (2, .int x), (3, .int y), (4, .int z)] := hl
    refine lv_tableIn (x := nI 0) (off := 51) (tgt := 52) hx hb dX13_does_1 (by decide) (by decide) (by decide) (by decide) ?_
    refine lv_aload_n hx hb dX13_does_52 rfl (lv_at hl 0 rfl) ?_
    refine lv_iload_n hx hb dX13_does_53 rfl (lv_at hl 2 rfl) ?_
    have hFc := va_free (wc := bMO k q th ea fa ch tn he en ln sv wr dg ++ bI83 k (q 1) v ++ bF10 k (q 6) fl) hD hS hA [0, 1, 2] rfl
    refine va_calli (va_runV (As := [.int x]) (rest := []) hF (m_X13_adds l9 D k H.size q th ea fa ch tn he en ln sv wr dg v fl n x hn hv0) (cwV 1 hts gX13_does_X13_adds rfl rfl rfl (by decide +kernel) ⟨Nat.le_of_ble_eq_true rfl, Nat.le_of_ble_eq_true rfl⟩) (wPreV hK hN hP hD [0, 1, 2] rfl (by decide) rfl 0 11 rfl rfl) rfl rfl hl.1 rfl (lv_room (Nat.le_of_ble_eq_true rfl)) dX13_does_54 ⟨Nat.zero_le _, Nat.zero_le _⟩) hS (fun q _ h => hFc q h) hFc (fun r u9 t9 H1 locs ht hvm hw hB hz1 hk1 hS => ?_)
    obtain ⟨hP, hD⟩ := wjoin (wr := bF10 k (q 10) nx) (wf := bMO k q ((opAdds v fl n th x).2.1) ea fa ch tn he en ln sv wr dg ++ bI83 k (q 1) ((opAdds v fl n th x).2.2.1) ++ bF10 k (q 6) ((opAdds v fl n th x).2.2.2) ++ bF10 k (q 10) nx) hP hD [0, 1, 2] [3] [1, 2, 3, 0] rfl rfl (by decide) (by decide) hk1 hFc hB ht rfl rfl (by decide)
    subst hw
    clear hB hk1 hz1 hvm hFc
    clear ht
    clear t9
    generalize H1 = H at hP hS ⊢
    have e_1 : ((opAdds v fl n th x).2.1 : Int32) = (doM n nl v fl nx th 0 x y z).2.1 := by first | (with_reducible rfl) | (rfl)
    have hP := Eq.mp (congrArg (fun z9 => va_P D vwCl (bMO k q z9 ea fa ch tn he en ln sv wr dg ++ bI83 k (q 1) ((opAdds v fl n th x).2.2.1) ++ bF10 k (q 6) ((opAdds v fl n th x).2.2.2) ++ bF10 k (q 10) nx) H) e_1) hP
    have hD := Eq.mp (congrArg (fun z9 => va_D A (bMO k q z9 ea fa ch tn he en ln sv wr dg ++ bI83 k (q 1) ((opAdds v fl n th x).2.2.1) ++ bF10 k (q 6) ((opAdds v fl n th x).2.2.2) ++ bF10 k (q 10) nx)) e_1) hD
    have e_2 : ((opAdds v fl n th x).2.2.1 : Nat → Int32) = (doM n nl v fl nx th 0 x y z).2.2.1 := by first | (with_reducible rfl) | (rfl)
    have hP := Eq.mp (congrArg (fun z9 => va_P D vwCl (bMO k q ((doM n nl v fl nx th 0 x y z).2.1) ea fa ch tn he en ln sv wr dg ++ bI83 k (q 1) z9 ++ bF10 k (q 6) ((opAdds v fl n th x).2.2.2) ++ bF10 k (q 10) nx) H) e_2) hP
    have hD := Eq.mp (congrArg (fun z9 => va_D A (bMO k q ((doM n nl v fl nx th 0 x y z).2.1) ea fa ch tn he en ln sv wr dg ++ bI83 k (q 1) z9 ++ bF10 k (q 6) ((opAdds v fl n th x).2.2.2) ++ bF10 k (q 10) nx)) e_2) hD
    have e_3 : ((opAdds v fl n th x).2.2.2 : Nat → UInt32) = (doM n nl v fl nx th 0 x y z).2.2.2.1 := by first | (with_reducible rfl) | (rfl)
    have hP := Eq.mp (congrArg (fun z9 => va_P D vwCl (bMO k q ((doM n nl v fl nx th 0 x y z).2.1) ea fa ch tn he en ln sv wr dg ++ bI83 k (q 1) ((doM n nl v fl nx th 0 x y z).2.2.1) ++ bF10 k (q 6) z9 ++ bF10 k (q 10) nx) H) e_3) hP
    have hD := Eq.mp (congrArg (fun z9 => va_D A (bMO k q ((doM n nl v fl nx th 0 x y z).2.1) ea fa ch tn he en ln sv wr dg ++ bI83 k (q 1) ((doM n nl v fl nx th 0 x y z).2.2.1) ++ bF10 k (q 6) z9 ++ bF10 k (q 10) nx)) e_3) hD
    have e_4 : (nx : Nat → UInt32) = (doM n nl v fl nx th 0 x y z).2.2.2.2 := by first | (with_reducible rfl) | (rfl)
    have hP := Eq.mp (congrArg (fun z9 => va_P D vwCl (bMO k q ((doM n nl v fl nx th 0 x y z).2.1) ea fa ch tn he en ln sv wr dg ++ bI83 k (q 1) ((doM n nl v fl nx th 0 x y z).2.2.1) ++ bF10 k (q 6) ((doM n nl v fl nx th 0 x y z).2.2.2.1) ++ bF10 k (q 10) z9) H) e_4) hP
    have hD := Eq.mp (congrArg (fun z9 => va_D A (bMO k q ((doM n nl v fl nx th 0 x y z).2.1) ea fa ch tn he en ln sv wr dg ++ bI83 k (q 1) ((doM n nl v fl nx th 0 x y z).2.2.1) ++ bF10 k (q 6) ((doM n nl v fl nx th 0 x y z).2.2.2.1) ++ bF10 k (q 10) z9)) e_4) hD
    exact W.iret (v := (opAdds v fl n th x).1) hx hb hr (fun t9 ht hW => ⟨⟨_, (), rfl, (by rfl), ⟨by rw [ht]; exact hP, va_K.moved hW.alike hK, hD⟩⟩, hS.F ht⟩) hS.2.2 dX13_does_57 hlocks
  · skip
    have hl : lv_has ls 5 [(0, .ref (q 0)), (1, .int 1), (2, .int x), (3, .int y), (4, .int z)] := hl
    refine lv_tableIn (x := nI 1) (off := 57) (tgt := 58) hx hb dX13_does_1 (by decide) (by decide) (by decide) (by decide) ?_
    refine lv_aload_n hx hb dX13_does_58 rfl (lv_at hl 0 rfl) ?_
    refine lv_iload_n hx hb dX13_does_59 rfl (lv_at hl 2 rfl) ?_
    refine lv_iload_n hx hb dX13_does_60 rfl (lv_at hl 3 rfl) ?_
    refine lv_iconst (v := 1) hx hb dX13_does_61 (by decide) ?_
    have hFc := va_free (wc := bMO k q th ea fa ch tn he en ln sv wr dg ++ bI83 k (q 1) v) hD hS hA [0, 1] rfl
    refine va_calli (va_runV (As := [.int x, .int y, .int 1]) (rest := []) hF (m_X13_sets l9 D k H.size q th ea fa ch tn he en ln sv wr dg v n x y true hn hv0) (cwV 3 hts gX13_does_X13_sets rfl rfl rfl (by decide +kernel) ⟨Nat.le_of_ble_eq_true rfl, Nat.le_of_ble_eq_true rfl⟩) (wPreV hK hN hP hD [0, 1] rfl (by decide) rfl 0 11 rfl rfl) rfl rfl hl.1 rfl (lv_room (Nat.le_of_ble_eq_true rfl)) dX13_does_62 ⟨Nat.zero_le _, Nat.zero_le _⟩) hS (fun q _ h => hFc q h) hFc (fun r u9 t9 H1 locs ht hvm hw hB hz1 hk1 hS => ?_)
    obtain ⟨hP, hD⟩ := wjoin (wr := bF10 k (q 6) fl ++ bF10 k (q 10) nx) (wf := bMO k q ((opSets v n th x y true).2.1) ea fa ch tn he en ln sv wr dg ++ bI83 k (q 1) ((opSets v n th x y true).2.2) ++ bF10 k (q 6) fl ++ bF10 k (q 10) nx) hP hD [0, 1] [2, 3] [2, 3, 0, 1] rfl rfl (by decide) (by decide) hk1 hFc hB ht rfl rfl (by decide)
    subst hw
    clear hB hk1 hz1 hvm hFc
    clear ht
    clear t9
    generalize H1 = H at hP hS ⊢
    have e_5 : ((opSets v n th x y true).2.1 : Int32) = (doM n nl v fl nx th 1 x y z).2.1 := by first | (with_reducible rfl) | (rfl)
    have hP := Eq.mp (congrArg (fun z9 => va_P D vwCl (bMO k q z9 ea fa ch tn he en ln sv wr dg ++ bI83 k (q 1) ((opSets v n th x y true).2.2) ++ bF10 k (q 6) fl ++ bF10 k (q 10) nx) H) e_5) hP
    have hD := Eq.mp (congrArg (fun z9 => va_D A (bMO k q z9 ea fa ch tn he en ln sv wr dg ++ bI83 k (q 1) ((opSets v n th x y true).2.2) ++ bF10 k (q 6) fl ++ bF10 k (q 10) nx)) e_5) hD
    have e_6 : ((opSets v n th x y true).2.2 : Nat → Int32) = (doM n nl v fl nx th 1 x y z).2.2.1 := by first | (with_reducible rfl) | (rfl)
    have hP := Eq.mp (congrArg (fun z9 => va_P D vwCl (bMO k q ((doM n nl v fl nx th 1 x y z).2.1) ea fa ch tn he en ln sv wr dg ++ bI83 k (q 1) z9 ++ bF10 k (q 6) fl ++ bF10 k (q 10) nx) H) e_6) hP
    have hD := Eq.mp (congrArg (fun z9 => va_D A (bMO k q ((doM n nl v fl nx th 1 x y z).2.1) ea fa ch tn he en ln sv wr dg ++ bI83 k (q 1) z9 ++ bF10 k (q 6) fl ++ bF10 k (q 10) nx)) e_6) hD
    have e_7 : (fl : Nat → UInt32) = (doM n nl v fl nx th 1 x y z).2.2.2.1 := by first | (with_reducible rfl) | (rfl)
    have hP := Eq.mp (congrArg (fun z9 => va_P D vwCl (bMO k q ((doM n nl v fl nx th 1 x y z).2.1) ea fa ch tn he en ln sv wr dg ++ bI83 k (q 1) ((doM n nl v fl nx th 1 x y z).2.2.1) ++ bF10 k (q 6) z9 ++ bF10 k (q 10) nx) H) e_7) hP
    have hD := Eq.mp (congrArg (fun z9 => va_D A (bMO k q ((doM n nl v fl nx th 1 x y z).2.1) ea fa ch tn he en ln sv wr dg ++ bI83 k (q 1) ((doM n nl v fl nx th 1 x y z).2.2.1) ++ bF10 k (q 6) z9 ++ bF10 k (q 10) nx)) e_7) hD
    have e_8 : (nx : Nat → UInt32) = (doM n nl v fl nx th 1 x y z).2.2.2.2 := by first | (with_reducible rfl) | (rfl)
    have hP := Eq.mp (congrArg (fun z9 => va_P D vwCl (bMO k q ((doM n nl v fl nx th 1 x y z).2.1) ea fa ch tn he en ln sv wr dg ++ bI83 k (q 1) ((doM n nl v fl nx th 1 x y z).2.2.1) ++ bF10 k (q 6) ((doM n nl v fl nx th 1 x y z).2.2.2.1) ++ bF10 k (q 10) z9) H) e_8) hP
    have hD := Eq.mp (congrArg (fun z9 => va_D A (bMO k q ((doM n nl v fl nx th 1 x y z).2.1) ea fa ch tn he en ln sv wr dg ++ bI83 k (q 1) ((doM n nl v fl nx th 1 x y z).2.2.1) ++ bF10 k (q 6) ((doM n nl v fl nx th 1 x y z).2.2.2.1) ++ bF10 k (q 10) z9)) e_8) hD
    exact W.iret (v := (opSets v n th x y true).1) hx hb hr (fun t9 ht hW => ⟨⟨_, (), rfl, (by rfl), ⟨by rw [ht]; exact hP, va_K.moved hW.alike hK, hD⟩⟩, hS.F ht⟩) hS.2.2 dX13_does_65 hlocks
  · skip
    have hl : lv_has ls 5 [(0, .ref (q 0)), (1, .int 2), (2, .int x), (3, .int y), (4, .int z)] := hl
    refine lv_tableIn (x := nI 2) (off := 65) (tgt := 66) hx hb dX13_does_1 (by decide) (by decide) (by decide) (by decide) ?_
    refine lv_aload_n hx hb dX13_does_66 rfl (lv_at hl 0 rfl) ?_
    refine lv_iload_n hx hb dX13_does_67 rfl (lv_at hl 2 rfl) ?_
    refine lv_iload_n hx hb dX13_does_68 rfl (lv_at hl 3 rfl) ?_
    refine lv_iconst (v := 0) hx hb dX13_does_69 (by decide) ?_
    have hFc := va_free (wc := bMO k q th ea fa ch tn he en ln sv wr dg ++ bI83 k (q 1) v) hD hS hA [0, 1] rfl
    refine va_calli (va_runV (As := [.int x, .int y, .int 0]) (rest := []) hF (m_X13_sets l9 D k H.size q th ea fa ch tn he en ln sv wr dg v n x y false hn hv0) (cwV 3 hts gX13_does_X13_sets rfl rfl rfl (by decide +kernel) ⟨Nat.le_of_ble_eq_true rfl, Nat.le_of_ble_eq_true rfl⟩) (wPreV hK hN hP hD [0, 1] rfl (by decide) rfl 0 11 rfl rfl) rfl rfl hl.1 rfl (lv_room (Nat.le_of_ble_eq_true rfl)) dX13_does_70 ⟨Nat.zero_le _, Nat.zero_le _⟩) hS (fun q _ h => hFc q h) hFc (fun r u9 t9 H1 locs ht hvm hw hB hz1 hk1 hS => ?_)
    obtain ⟨hP, hD⟩ := wjoin (wr := bF10 k (q 6) fl ++ bF10 k (q 10) nx) (wf := bMO k q ((opSets v n th x y false).2.1) ea fa ch tn he en ln sv wr dg ++ bI83 k (q 1) ((opSets v n th x y false).2.2) ++ bF10 k (q 6) fl ++ bF10 k (q 10) nx) hP hD [0, 1] [2, 3] [2, 3, 0, 1] rfl rfl (by decide) (by decide) hk1 hFc hB ht rfl rfl (by decide)
    subst hw
    clear hB hk1 hz1 hvm hFc
    clear ht
    clear t9
    generalize H1 = H at hP hS ⊢
    have e_9 : ((opSets v n th x y false).2.1 : Int32) = (doM n nl v fl nx th 2 x y z).2.1 := by first | (with_reducible rfl) | (rfl)
    have hP := Eq.mp (congrArg (fun z9 => va_P D vwCl (bMO k q z9 ea fa ch tn he en ln sv wr dg ++ bI83 k (q 1) ((opSets v n th x y false).2.2) ++ bF10 k (q 6) fl ++ bF10 k (q 10) nx) H) e_9) hP
    have hD := Eq.mp (congrArg (fun z9 => va_D A (bMO k q z9 ea fa ch tn he en ln sv wr dg ++ bI83 k (q 1) ((opSets v n th x y false).2.2) ++ bF10 k (q 6) fl ++ bF10 k (q 10) nx)) e_9) hD
    have e_10 : ((opSets v n th x y false).2.2 : Nat → Int32) = (doM n nl v fl nx th 2 x y z).2.2.1 := by first | (with_reducible rfl) | (rfl)
    have hP := Eq.mp (congrArg (fun z9 => va_P D vwCl (bMO k q ((doM n nl v fl nx th 2 x y z).2.1) ea fa ch tn he en ln sv wr dg ++ bI83 k (q 1) z9 ++ bF10 k (q 6) fl ++ bF10 k (q 10) nx) H) e_10) hP
    have hD := Eq.mp (congrArg (fun z9 => va_D A (bMO k q ((doM n nl v fl nx th 2 x y z).2.1) ea fa ch tn he en ln sv wr dg ++ bI83 k (q 1) z9 ++ bF10 k (q 6) fl ++ bF10 k (q 10) nx)) e_10) hD
    have e_11 : (fl : Nat → UInt32) = (doM n nl v fl nx th 2 x y z).2.2.2.1 := by first | (with_reducible rfl) | (rfl)
    have hP := Eq.mp (congrArg (fun z9 => va_P D vwCl (bMO k q ((doM n nl v fl nx th 2 x y z).2.1) ea fa ch tn he en ln sv wr dg ++ bI83 k (q 1) ((doM n nl v fl nx th 2 x y z).2.2.1) ++ bF10 k (q 6) z9 ++ bF10 k (q 10) nx) H) e_11) hP
    have hD := Eq.mp (congrArg (fun z9 => va_D A (bMO k q ((doM n nl v fl nx th 2 x y z).2.1) ea fa ch tn he en ln sv wr dg ++ bI83 k (q 1) ((doM n nl v fl nx th 2 x y z).2.2.1) ++ bF10 k (q 6) z9 ++ bF10 k (q 10) nx)) e_11) hD
    have e_12 : (nx : Nat → UInt32) = (doM n nl v fl nx th 2 x y z).2.2.2.2 := by first | (with_reducible rfl) | (rfl)
    have hP := Eq.mp (congrArg (fun z9 => va_P D vwCl (bMO k q ((doM n nl v fl nx th 2 x y z).2.1) ea fa ch tn he en ln sv wr dg ++ bI83 k (q 1) ((doM n nl v fl nx th 2 x y z).2.2.1) ++ bF10 k (q 6) ((doM n nl v fl nx th 2 x y z).2.2.2.1) ++ bF10 k (q 10) z9) H) e_12) hP
    have hD := Eq.mp (congrArg (fun z9 => va_D A (bMO k q ((doM n nl v fl nx th 2 x y z).2.1) ea fa ch tn he en ln sv wr dg ++ bI83 k (q 1) ((doM n nl v fl nx th 2 x y z).2.2.1) ++ bF10 k (q 6) ((doM n nl v fl nx th 2 x y z).2.2.2.1) ++ bF10 k (q 10) z9)) e_12) hD
    exact W.iret (v := (opSets v n th x y false).1) hx hb hr (fun t9 ht hW => ⟨⟨_, (), rfl, (by rfl), ⟨by rw [ht]; exact hP, va_K.moved hW.alike hK, hD⟩⟩, hS.F ht⟩) hS.2.2 dX13_does_73 hlocks
  · skip
    have hl : lv_has ls 5 [(0, .ref (q 0)), (1, .int 3), (2, .int x), (3, .int y), (4, .int z)] := hl
    refine lv_tableIn (x := nI 3) (off := 73) (tgt := 74) hx hb dX13_does_1 (by decide) (by decide) (by decide) (by decide) ?_
    refine lv_aload_n hx hb dX13_does_74 rfl (lv_at hl 0 rfl) ?_
    refine lv_iload_n hx hb dX13_does_75 rfl (lv_at hl 2 rfl) ?_
    refine lv_iload_n hx hb dX13_does_76 rfl (lv_at hl 3 rfl) ?_
    have hFc := va_free (wc := bMO k q th ea fa ch tn he en ln sv wr dg ++ bI83 k (q 1) v) hD hS hA [0, 1] rfl
    refine va_calli (va_runV (As := [.int x, .int y]) (rest := []) hF (m_X13_moves l9 D k H.size q th ea fa ch tn he en ln sv wr dg v n x y hn hv0) (cwV 2 hts gX13_does_X13_moves rfl rfl rfl (by decide +kernel) ⟨Nat.le_of_ble_eq_true rfl, Nat.le_of_ble_eq_true rfl⟩) (wPreV hK hN hP hD [0, 1] rfl (by decide) rfl 0 11 rfl rfl) rfl rfl hl.1 rfl (lv_room (Nat.le_of_ble_eq_true rfl)) dX13_does_77 ⟨Nat.zero_le _, Nat.zero_le _⟩) hS (fun q _ h => hFc q h) hFc (fun r u9 t9 H1 locs ht hvm hw hB hz1 hk1 hS => ?_)
    obtain ⟨hP, hD⟩ := wjoin (wr := bF10 k (q 6) fl ++ bF10 k (q 10) nx) (wf := bMO k q ((opMoves v n th x y).2.1) ea fa ch tn he en ln sv wr dg ++ bI83 k (q 1) ((opMoves v n th x y).2.2) ++ bF10 k (q 6) fl ++ bF10 k (q 10) nx) hP hD [0, 1] [2, 3] [2, 3, 0, 1] rfl rfl (by decide) (by decide) hk1 hFc hB ht rfl rfl (by decide)
    subst hw
    clear hB hk1 hz1 hvm hFc
    clear ht
    clear t9
    generalize H1 = H at hP hS ⊢
    have e_13 : ((opMoves v n th x y).2.1 : Int32) = (doM n nl v fl nx th 3 x y z).2.1 := by first | (with_reducible rfl) | (rfl)
    have hP := Eq.mp (congrArg (fun z9 => va_P D vwCl (bMO k q z9 ea fa ch tn he en ln sv wr dg ++ bI83 k (q 1) ((opMoves v n th x y).2.2) ++ bF10 k (q 6) fl ++ bF10 k (q 10) nx) H) e_13) hP
    have hD := Eq.mp (congrArg (fun z9 => va_D A (bMO k q z9 ea fa ch tn he en ln sv wr dg ++ bI83 k (q 1) ((opMoves v n th x y).2.2) ++ bF10 k (q 6) fl ++ bF10 k (q 10) nx)) e_13) hD
    have e_14 : ((opMoves v n th x y).2.2 : Nat → Int32) = (doM n nl v fl nx th 3 x y z).2.2.1 := by first | (with_reducible rfl) | (rfl)
    have hP := Eq.mp (congrArg (fun z9 => va_P D vwCl (bMO k q ((doM n nl v fl nx th 3 x y z).2.1) ea fa ch tn he en ln sv wr dg ++ bI83 k (q 1) z9 ++ bF10 k (q 6) fl ++ bF10 k (q 10) nx) H) e_14) hP
    have hD := Eq.mp (congrArg (fun z9 => va_D A (bMO k q ((doM n nl v fl nx th 3 x y z).2.1) ea fa ch tn he en ln sv wr dg ++ bI83 k (q 1) z9 ++ bF10 k (q 6) fl ++ bF10 k (q 10) nx)) e_14) hD
    have e_15 : (fl : Nat → UInt32) = (doM n nl v fl nx th 3 x y z).2.2.2.1 := by first | (with_reducible rfl) | (rfl)
    have hP := Eq.mp (congrArg (fun z9 => va_P D vwCl (bMO k q ((doM n nl v fl nx th 3 x y z).2.1) ea fa ch tn he en ln sv wr dg ++ bI83 k (q 1) ((doM n nl v fl nx th 3 x y z).2.2.1) ++ bF10 k (q 6) z9 ++ bF10 k (q 10) nx) H) e_15) hP
    have hD := Eq.mp (congrArg (fun z9 => va_D A (bMO k q ((doM n nl v fl nx th 3 x y z).2.1) ea fa ch tn he en ln sv wr dg ++ bI83 k (q 1) ((doM n nl v fl nx th 3 x y z).2.2.1) ++ bF10 k (q 6) z9 ++ bF10 k (q 10) nx)) e_15) hD
    have e_16 : (nx : Nat → UInt32) = (doM n nl v fl nx th 3 x y z).2.2.2.2 := by first | (with_reducible rfl) | (rfl)
    have hP := Eq.mp (congrArg (fun z9 => va_P D vwCl (bMO k q ((doM n nl v fl nx th 3 x y z).2.1) ea fa ch tn he en ln sv wr dg ++ bI83 k (q 1) ((doM n nl v fl nx th 3 x y z).2.2.1) ++ bF10 k (q 6) ((doM n nl v fl nx th 3 x y z).2.2.2.1) ++ bF10 k (q 10) z9) H) e_16) hP
    have hD := Eq.mp (congrArg (fun z9 => va_D A (bMO k q ((doM n nl v fl nx th 3 x y z).2.1) ea fa ch tn he en ln sv wr dg ++ bI83 k (q 1) ((doM n nl v fl nx th 3 x y z).2.2.1) ++ bF10 k (q 6) ((doM n nl v fl nx th 3 x y z).2.2.2.1) ++ bF10 k (q 10) z9)) e_16) hD
    exact W.iret (v := (opMoves v n th x y).1) hx hb hr (fun t9 ht hW => ⟨⟨_, (), rfl, (by rfl), ⟨by rw [ht]; exact hP, va_K.moved hW.alike hK, hD⟩⟩, hS.F ht⟩) hS.2.2 dX13_does_80 hlocks
  · skip
    have hl : lv_has ls 5 [(0, .ref (q 0)), (1, .int 4), (2, .int x), (3, .int y), (4, .int z)] := hl
    refine lv_tableIn (x := nI 4) (off := 80) (tgt := 81) hx hb dX13_does_1 (by decide) (by decide) (by decide) (by decide) ?_
    refine lv_aload_n hx hb dX13_does_81 rfl (lv_at hl 0 rfl) ?_
    refine lv_iload_n hx hb dX13_does_82 rfl (lv_at hl 2 rfl) ?_
    refine lv_iload_n hx hb dX13_does_83 rfl (lv_at hl 3 rfl) ?_
    have hFc := va_free (wc := bMO k q th ea fa ch tn he en ln sv wr dg ++ bI83 k (q 1) v) hD hS hA [0, 1] rfl
    refine va_calli (va_runV (As := [.int x, .int y]) (rest := []) hF (m_X13_racks l9 D k H.size q th ea fa ch tn he en ln sv wr dg v x y ) (cwV 2 hts gX13_does_X13_racks rfl rfl rfl (by decide +kernel) ⟨Nat.le_of_ble_eq_true rfl, Nat.le_of_ble_eq_true rfl⟩) (wPreV hK hN hP hD [0, 1] rfl (by decide) rfl 0 11 rfl rfl) rfl rfl hl.1 rfl (lv_room (Nat.le_of_ble_eq_true rfl)) dX13_does_84 ⟨Nat.zero_le _, Nat.zero_le _⟩) hS (fun q _ h => hFc q h) hFc (fun r u9 t9 H1 locs ht hvm hw hB hz1 hk1 hS => ?_)
    obtain ⟨hP, hD⟩ := wjoin (wr := bF10 k (q 6) fl ++ bF10 k (q 10) nx) (wf := bMO k q ((opRacks v th x y).2.1) ea fa ch tn he en ln sv wr dg ++ bI83 k (q 1) ((opRacks v th x y).2.2) ++ bF10 k (q 6) fl ++ bF10 k (q 10) nx) hP hD [0, 1] [2, 3] [2, 3, 0, 1] rfl rfl (by decide) (by decide) hk1 hFc hB ht rfl rfl (by decide)
    subst hw
    clear hB hk1 hz1 hvm hFc
    clear ht
    clear t9
    generalize H1 = H at hP hS ⊢
    have e_17 : ((opRacks v th x y).2.1 : Int32) = (doM n nl v fl nx th 4 x y z).2.1 := by first | (with_reducible rfl) | (rfl)
    have hP := Eq.mp (congrArg (fun z9 => va_P D vwCl (bMO k q z9 ea fa ch tn he en ln sv wr dg ++ bI83 k (q 1) ((opRacks v th x y).2.2) ++ bF10 k (q 6) fl ++ bF10 k (q 10) nx) H) e_17) hP
    have hD := Eq.mp (congrArg (fun z9 => va_D A (bMO k q z9 ea fa ch tn he en ln sv wr dg ++ bI83 k (q 1) ((opRacks v th x y).2.2) ++ bF10 k (q 6) fl ++ bF10 k (q 10) nx)) e_17) hD
    have e_18 : ((opRacks v th x y).2.2 : Nat → Int32) = (doM n nl v fl nx th 4 x y z).2.2.1 := by first | (with_reducible rfl) | (rfl)
    have hP := Eq.mp (congrArg (fun z9 => va_P D vwCl (bMO k q ((doM n nl v fl nx th 4 x y z).2.1) ea fa ch tn he en ln sv wr dg ++ bI83 k (q 1) z9 ++ bF10 k (q 6) fl ++ bF10 k (q 10) nx) H) e_18) hP
    have hD := Eq.mp (congrArg (fun z9 => va_D A (bMO k q ((doM n nl v fl nx th 4 x y z).2.1) ea fa ch tn he en ln sv wr dg ++ bI83 k (q 1) z9 ++ bF10 k (q 6) fl ++ bF10 k (q 10) nx)) e_18) hD
    have e_19 : (fl : Nat → UInt32) = (doM n nl v fl nx th 4 x y z).2.2.2.1 := by first | (with_reducible rfl) | (rfl)
    have hP := Eq.mp (congrArg (fun z9 => va_P D vwCl (bMO k q ((doM n nl v fl nx th 4 x y z).2.1) ea fa ch tn he en ln sv wr dg ++ bI83 k (q 1) ((doM n nl v fl nx th 4 x y z).2.2.1) ++ bF10 k (q 6) z9 ++ bF10 k (q 10) nx) H) e_19) hP
    have hD := Eq.mp (congrArg (fun z9 => va_D A (bMO k q ((doM n nl v fl nx th 4 x y z).2.1) ea fa ch tn he en ln sv wr dg ++ bI83 k (q 1) ((doM n nl v fl nx th 4 x y z).2.2.1) ++ bF10 k (q 6) z9 ++ bF10 k (q 10) nx)) e_19) hD
    have e_20 : (nx : Nat → UInt32) = (doM n nl v fl nx th 4 x y z).2.2.2.2 := by first | (with_reducible rfl) | (rfl)
    have hP := Eq.mp (congrArg (fun z9 => va_P D vwCl (bMO k q ((doM n nl v fl nx th 4 x y z).2.1) ea fa ch tn he en ln sv wr dg ++ bI83 k (q 1) ((doM n nl v fl nx th 4 x y z).2.2.1) ++ bF10 k (q 6) ((doM n nl v fl nx th 4 x y z).2.2.2.1) ++ bF10 k (q 10) z9) H) e_20) hP
    have hD := Eq.mp (congrArg (fun z9 => va_D A (bMO k q ((doM n nl v fl nx th 4 x y z).2.1) ea fa ch tn he en ln sv wr dg ++ bI83 k (q 1) ((doM n nl v fl nx th 4 x y z).2.2.1) ++ bF10 k (q 6) ((doM n nl v fl nx th 4 x y z).2.2.2.1) ++ bF10 k (q 10) z9)) e_20) hD
    exact W.iret (v := (opRacks v th x y).1) hx hb hr (fun t9 ht hW => ⟨⟨_, (), rfl, (by rfl), ⟨by rw [ht]; exact hP, va_K.moved hW.alike hK, hD⟩⟩, hS.F ht⟩) hS.2.2 dX13_does_87 hlocks
  · skip
    have hl : lv_has ls 5 [(0, .ref (q 0)), (1, .int 5), (2, .int x), (3, .int y), (4, .int z)] := hl
    refine lv_tableIn (x := nI 5) (off := 87) (tgt := 88) hx hb dX13_does_1 (by decide) (by decide) (by decide) (by decide) ?_
    refine lv_aload_n hx hb dX13_does_88 rfl (lv_at hl 0 rfl) ?_
    refine lv_iload_n hx hb dX13_does_89 rfl (lv_at hl 2 rfl) ?_
    refine lv_iload_n hx hb dX13_does_90 rfl (lv_at hl 3 rfl) ?_
    refine lv_iload hx hb dX13_does_91 (lv_at hl 4 rfl) ?_
    have hFc := va_free (wc := bMO k q th ea fa ch tn he en ln sv wr dg ++ bI83 k (q 1) v) hD hS hA [0, 1] rfl
    refine va_calli (va_runV (As := [.int x, .int y, .int z]) (rest := []) hF (m_X13_inserts l9 D k H.size q th ea fa ch tn he en ln sv wr dg v nl x y z hnl hv4) (cwV 3 hts gX13_does_X13_inserts rfl rfl rfl (by decide +kernel) ⟨Nat.le_of_ble_eq_true rfl, Nat.le_of_ble_eq_true rfl⟩) (wPreV hK hN hP hD [0, 1] rfl (by decide) rfl 0 11 rfl rfl) rfl rfl hl.1 rfl (lv_room (Nat.le_of_ble_eq_true rfl)) dX13_does_93 ⟨Nat.zero_le _, Nat.zero_le _⟩) hS (fun q _ h => hFc q h) hFc (fun r u9 t9 H1 locs ht hvm hw hB hz1 hk1 hS => ?_)
    obtain ⟨hP, hD⟩ := wjoin (wr := bF10 k (q 6) fl ++ bF10 k (q 10) nx) (wf := bMO k q ((opIns v nl th x y z).2.1) ea fa ch tn he en ln sv wr dg ++ bI83 k (q 1) ((opIns v nl th x y z).2.2) ++ bF10 k (q 6) fl ++ bF10 k (q 10) nx) hP hD [0, 1] [2, 3] [2, 3, 0, 1] rfl rfl (by decide) (by decide) hk1 hFc hB ht rfl rfl (by decide)
    subst hw
    clear hB hk1 hz1 hvm hFc
    clear ht
    clear t9
    generalize H1 = H at hP hS ⊢
    have e_21 : ((opIns v nl th x y z).2.1 : Int32) = (doM n nl v fl nx th 5 x y z).2.1 := by first | (with_reducible rfl) | (rfl)
    have hP := Eq.mp (congrArg (fun z9 => va_P D vwCl (bMO k q z9 ea fa ch tn he en ln sv wr dg ++ bI83 k (q 1) ((opIns v nl th x y z).2.2) ++ bF10 k (q 6) fl ++ bF10 k (q 10) nx) H) e_21) hP
    have hD := Eq.mp (congrArg (fun z9 => va_D A (bMO k q z9 ea fa ch tn he en ln sv wr dg ++ bI83 k (q 1) ((opIns v nl th x y z).2.2) ++ bF10 k (q 6) fl ++ bF10 k (q 10) nx)) e_21) hD
    have e_22 : ((opIns v nl th x y z).2.2 : Nat → Int32) = (doM n nl v fl nx th 5 x y z).2.2.1 := by first | (with_reducible rfl) | (rfl)
    have hP := Eq.mp (congrArg (fun z9 => va_P D vwCl (bMO k q ((doM n nl v fl nx th 5 x y z).2.1) ea fa ch tn he en ln sv wr dg ++ bI83 k (q 1) z9 ++ bF10 k (q 6) fl ++ bF10 k (q 10) nx) H) e_22) hP
    have hD := Eq.mp (congrArg (fun z9 => va_D A (bMO k q ((doM n nl v fl nx th 5 x y z).2.1) ea fa ch tn he en ln sv wr dg ++ bI83 k (q 1) z9 ++ bF10 k (q 6) fl ++ bF10 k (q 10) nx)) e_22) hD
    have e_23 : (fl : Nat → UInt32) = (doM n nl v fl nx th 5 x y z).2.2.2.1 := by first | (with_reducible rfl) | (rfl)
    have hP := Eq.mp (congrArg (fun z9 => va_P D vwCl (bMO k q ((doM n nl v fl nx th 5 x y z).2.1) ea fa ch tn he en ln sv wr dg ++ bI83 k (q 1) ((doM n nl v fl nx th 5 x y z).2.2.1) ++ bF10 k (q 6) z9 ++ bF10 k (q 10) nx) H) e_23) hP
    have hD := Eq.mp (congrArg (fun z9 => va_D A (bMO k q ((doM n nl v fl nx th 5 x y z).2.1) ea fa ch tn he en ln sv wr dg ++ bI83 k (q 1) ((doM n nl v fl nx th 5 x y z).2.2.1) ++ bF10 k (q 6) z9 ++ bF10 k (q 10) nx)) e_23) hD
    have e_24 : (nx : Nat → UInt32) = (doM n nl v fl nx th 5 x y z).2.2.2.2 := by first | (with_reducible rfl) | (rfl)
    have hP := Eq.mp (congrArg (fun z9 => va_P D vwCl (bMO k q ((doM n nl v fl nx th 5 x y z).2.1) ea fa ch tn he en ln sv wr dg ++ bI83 k (q 1) ((doM n nl v fl nx th 5 x y z).2.2.1) ++ bF10 k (q 6) ((doM n nl v fl nx th 5 x y z).2.2.2.1) ++ bF10 k (q 10) z9) H) e_24) hP
    have hD := Eq.mp (congrArg (fun z9 => va_D A (bMO k q ((doM n nl v fl nx th 5 x y z).2.1) ea fa ch tn he en ln sv wr dg ++ bI83 k (q 1) ((doM n nl v fl nx th 5 x y z).2.2.1) ++ bF10 k (q 6) ((doM n nl v fl nx th 5 x y z).2.2.2.1) ++ bF10 k (q 10) z9)) e_24) hD
    exact W.iret (v := (opIns v nl th x y z).1) hx hb hr (fun t9 ht hW => ⟨⟨_, (), rfl, (by rfl), ⟨by rw [ht]; exact hP, va_K.moved hW.alike hK, hD⟩⟩, hS.F ht⟩) hS.2.2 dX13_does_96 hlocks
  · skip
    have hl : lv_has ls 5 [(0, .ref (q 0)), (1, .int 6), (2, .int x), (3, .int y), (4, .int z)] := hl
    refine lv_tableIn (x := nI 6) (off := 96) (tgt := 97) hx hb dX13_does_1 (by decide) (by decide) (by decide) (by decide) ?_
    refine lv_aload_n hx hb dX13_does_97 rfl (lv_at hl 0 rfl) ?_
    refine lv_iload_n hx hb dX13_does_98 rfl (lv_at hl 2 rfl) ?_
    refine lv_iload_n hx hb dX13_does_99 rfl (lv_at hl 3 rfl) ?_
    have hFc := va_free (wc := bMO k q th ea fa ch tn he en ln sv wr dg ++ bI83 k (q 1) v) hD hS hA [0, 1] rfl
    refine va_calli (va_runV (As := [.int x, .int y]) (rest := []) hF (m_X13_draws l9 D k H.size q th ea fa ch tn he en ln sv wr dg v nl x y hnl hv4) (cwV 2 hts gX13_does_X13_draws rfl rfl rfl (by decide +kernel) ⟨Nat.le_of_ble_eq_true rfl, Nat.le_of_ble_eq_true rfl⟩) (wPreV hK hN hP hD [0, 1] rfl (by decide) rfl 0 11 rfl rfl) rfl rfl hl.1 rfl (lv_room (Nat.le_of_ble_eq_true rfl)) dX13_does_100 ⟨Nat.zero_le _, Nat.zero_le _⟩) hS (fun q _ h => hFc q h) hFc (fun r u9 t9 H1 locs ht hvm hw hB hz1 hk1 hS => ?_)
    obtain ⟨hP, hD⟩ := wjoin (wr := bF10 k (q 6) fl ++ bF10 k (q 10) nx) (wf := bMO k q ((opDrw v nl th x y).2.1) ea fa ch tn he en ln sv wr dg ++ bI83 k (q 1) ((opDrw v nl th x y).2.2) ++ bF10 k (q 6) fl ++ bF10 k (q 10) nx) hP hD [0, 1] [2, 3] [2, 3, 0, 1] rfl rfl (by decide) (by decide) hk1 hFc hB ht rfl rfl (by decide)
    subst hw
    clear hB hk1 hz1 hvm hFc
    clear ht
    clear t9
    generalize H1 = H at hP hS ⊢
    have e_25 : ((opDrw v nl th x y).2.1 : Int32) = (doM n nl v fl nx th 6 x y z).2.1 := by first | (with_reducible rfl) | (rfl)
    have hP := Eq.mp (congrArg (fun z9 => va_P D vwCl (bMO k q z9 ea fa ch tn he en ln sv wr dg ++ bI83 k (q 1) ((opDrw v nl th x y).2.2) ++ bF10 k (q 6) fl ++ bF10 k (q 10) nx) H) e_25) hP
    have hD := Eq.mp (congrArg (fun z9 => va_D A (bMO k q z9 ea fa ch tn he en ln sv wr dg ++ bI83 k (q 1) ((opDrw v nl th x y).2.2) ++ bF10 k (q 6) fl ++ bF10 k (q 10) nx)) e_25) hD
    have e_26 : ((opDrw v nl th x y).2.2 : Nat → Int32) = (doM n nl v fl nx th 6 x y z).2.2.1 := by first | (with_reducible rfl) | (rfl)
    have hP := Eq.mp (congrArg (fun z9 => va_P D vwCl (bMO k q ((doM n nl v fl nx th 6 x y z).2.1) ea fa ch tn he en ln sv wr dg ++ bI83 k (q 1) z9 ++ bF10 k (q 6) fl ++ bF10 k (q 10) nx) H) e_26) hP
    have hD := Eq.mp (congrArg (fun z9 => va_D A (bMO k q ((doM n nl v fl nx th 6 x y z).2.1) ea fa ch tn he en ln sv wr dg ++ bI83 k (q 1) z9 ++ bF10 k (q 6) fl ++ bF10 k (q 10) nx)) e_26) hD
    have e_27 : (fl : Nat → UInt32) = (doM n nl v fl nx th 6 x y z).2.2.2.1 := by first | (with_reducible rfl) | (rfl)
    have hP := Eq.mp (congrArg (fun z9 => va_P D vwCl (bMO k q ((doM n nl v fl nx th 6 x y z).2.1) ea fa ch tn he en ln sv wr dg ++ bI83 k (q 1) ((doM n nl v fl nx th 6 x y z).2.2.1) ++ bF10 k (q 6) z9 ++ bF10 k (q 10) nx) H) e_27) hP
    have hD := Eq.mp (congrArg (fun z9 => va_D A (bMO k q ((doM n nl v fl nx th 6 x y z).2.1) ea fa ch tn he en ln sv wr dg ++ bI83 k (q 1) ((doM n nl v fl nx th 6 x y z).2.2.1) ++ bF10 k (q 6) z9 ++ bF10 k (q 10) nx)) e_27) hD
    have e_28 : (nx : Nat → UInt32) = (doM n nl v fl nx th 6 x y z).2.2.2.2 := by first | (with_reducible rfl) | (rfl)
    have hP := Eq.mp (congrArg (fun z9 => va_P D vwCl (bMO k q ((doM n nl v fl nx th 6 x y z).2.1) ea fa ch tn he en ln sv wr dg ++ bI83 k (q 1) ((doM n nl v fl nx th 6 x y z).2.2.1) ++ bF10 k (q 6) ((doM n nl v fl nx th 6 x y z).2.2.2.1) ++ bF10 k (q 10) z9) H) e_28) hP
    have hD := Eq.mp (congrArg (fun z9 => va_D A (bMO k q ((doM n nl v fl nx th 6 x y z).2.1) ea fa ch tn he en ln sv wr dg ++ bI83 k (q 1) ((doM n nl v fl nx th 6 x y z).2.2.1) ++ bF10 k (q 6) ((doM n nl v fl nx th 6 x y z).2.2.2.1) ++ bF10 k (q 10) z9)) e_28) hD
    exact W.iret (v := (opDrw v nl th x y).1) hx hb hr (fun t9 ht hW => ⟨⟨_, (), rfl, (by rfl), ⟨by rw [ht]; exact hP, va_K.moved hW.alike hK, hD⟩⟩, hS.F ht⟩) hS.2.2 dX13_does_103 hlocks
  · skip
    have hl : lv_has ls 5 [(0, .ref (q 0)), (1, .int 7), (2, .int x), (3, .int y), (4, .int z)] := hl
    refine lv_tableIn (x := nI 7) (off := 103) (tgt := 104) hx hb dX13_does_1 (by decide) (by decide) (by decide) (by decide) ?_
    refine lv_aload_n hx hb dX13_does_104 rfl (lv_at hl 0 rfl) ?_
    refine lv_iload_n hx hb dX13_does_105 rfl (lv_at hl 2 rfl) ?_
    refine lv_iload_n hx hb dX13_does_106 rfl (lv_at hl 3 rfl) ?_
    have hFc := va_free (wc := bMO k q th ea fa ch tn he en ln sv wr dg ++ bI83 k (q 1) v ++ bF10 k (q 6) fl) hD hS hA [0, 1, 2] rfl
    refine va_calli (va_runV (As := [.int x, .int y]) (rest := []) hF (m_X13_excites l9 D k H.size q th ea fa ch tn he en ln sv wr dg v fl n nl x y hn hv0 hnl hv4 hf) (cwV 2 hts gX13_does_X13_excites rfl rfl rfl (by decide +kernel) ⟨Nat.le_of_ble_eq_true rfl, Nat.le_of_ble_eq_true rfl⟩) (wPreV hK hN hP hD [0, 1, 2] rfl (by decide) rfl 0 11 rfl rfl) rfl rfl hl.1 rfl (lv_room (Nat.le_of_ble_eq_true rfl)) dX13_does_107 ⟨Nat.zero_le _, Nat.zero_le _⟩) hS (fun q _ h => hFc q h) hFc (fun r u9 t9 H1 locs ht hvm hw hB hz1 hk1 hS => ?_)
    obtain ⟨hP, hD⟩ := wjoin (wr := bF10 k (q 10) nx) (wf := bMO k q ((opExc v fl n nl th x y).2.1) ea fa ch tn he en ln sv wr dg ++ bI83 k (q 1) ((opExc v fl n nl th x y).2.2.1) ++ bF10 k (q 6) ((opExc v fl n nl th x y).2.2.2) ++ bF10 k (q 10) nx) hP hD [0, 1, 2] [3] [1, 2, 3, 0] rfl rfl (by decide) (by decide) hk1 hFc hB ht rfl rfl (by decide)
    subst hw
    clear hB hk1 hz1 hvm hFc
    clear ht
    clear t9
    generalize H1 = H at hP hS ⊢
    have e_29 : ((opExc v fl n nl th x y).2.1 : Int32) = (doM n nl v fl nx th 7 x y z).2.1 := by first | (with_reducible rfl) | (rfl)
    have hP := Eq.mp (congrArg (fun z9 => va_P D vwCl (bMO k q z9 ea fa ch tn he en ln sv wr dg ++ bI83 k (q 1) ((opExc v fl n nl th x y).2.2.1) ++ bF10 k (q 6) ((opExc v fl n nl th x y).2.2.2) ++ bF10 k (q 10) nx) H) e_29) hP
    have hD := Eq.mp (congrArg (fun z9 => va_D A (bMO k q z9 ea fa ch tn he en ln sv wr dg ++ bI83 k (q 1) ((opExc v fl n nl th x y).2.2.1) ++ bF10 k (q 6) ((opExc v fl n nl th x y).2.2.2) ++ bF10 k (q 10) nx)) e_29) hD
    have e_30 : ((opExc v fl n nl th x y).2.2.1 : Nat → Int32) = (doM n nl v fl nx th 7 x y z).2.2.1 := by first | (with_reducible rfl) | (rfl)
    have hP := Eq.mp (congrArg (fun z9 => va_P D vwCl (bMO k q ((doM n nl v fl nx th 7 x y z).2.1) ea fa ch tn he en ln sv wr dg ++ bI83 k (q 1) z9 ++ bF10 k (q 6) ((opExc v fl n nl th x y).2.2.2) ++ bF10 k (q 10) nx) H) e_30) hP
    have hD := Eq.mp (congrArg (fun z9 => va_D A (bMO k q ((doM n nl v fl nx th 7 x y z).2.1) ea fa ch tn he en ln sv wr dg ++ bI83 k (q 1) z9 ++ bF10 k (q 6) ((opExc v fl n nl th x y).2.2.2) ++ bF10 k (q 10) nx)) e_30) hD
    have e_31 : ((opExc v fl n nl th x y).2.2.2 : Nat → UInt32) = (doM n nl v fl nx th 7 x y z).2.2.2.1 := by first | (with_reducible rfl) | (rfl)
    have hP := Eq.mp (congrArg (fun z9 => va_P D vwCl (bMO k q ((doM n nl v fl nx th 7 x y z).2.1) ea fa ch tn he en ln sv wr dg ++ bI83 k (q 1) ((doM n nl v fl nx th 7 x y z).2.2.1) ++ bF10 k (q 6) z9 ++ bF10 k (q 10) nx) H) e_31) hP
    have hD := Eq.mp (congrArg (fun z9 => va_D A (bMO k q ((doM n nl v fl nx th 7 x y z).2.1) ea fa ch tn he en ln sv wr dg ++ bI83 k (q 1) ((doM n nl v fl nx th 7 x y z).2.2.1) ++ bF10 k (q 6) z9 ++ bF10 k (q 10) nx)) e_31) hD
    have e_32 : (nx : Nat → UInt32) = (doM n nl v fl nx th 7 x y z).2.2.2.2 := by first | (with_reducible rfl) | (rfl)
    have hP := Eq.mp (congrArg (fun z9 => va_P D vwCl (bMO k q ((doM n nl v fl nx th 7 x y z).2.1) ea fa ch tn he en ln sv wr dg ++ bI83 k (q 1) ((doM n nl v fl nx th 7 x y z).2.2.1) ++ bF10 k (q 6) ((doM n nl v fl nx th 7 x y z).2.2.2.1) ++ bF10 k (q 10) z9) H) e_32) hP
    have hD := Eq.mp (congrArg (fun z9 => va_D A (bMO k q ((doM n nl v fl nx th 7 x y z).2.1) ea fa ch tn he en ln sv wr dg ++ bI83 k (q 1) ((doM n nl v fl nx th 7 x y z).2.2.1) ++ bF10 k (q 6) ((doM n nl v fl nx th 7 x y z).2.2.2.1) ++ bF10 k (q 10) z9)) e_32) hD
    exact W.iret (v := (opExc v fl n nl th x y).1) hx hb hr (fun t9 ht hW => ⟨⟨_, (), rfl, (by rfl), ⟨by rw [ht]; exact hP, va_K.moved hW.alike hK, hD⟩⟩, hS.F ht⟩) hS.2.2 dX13_does_110 hlocks
  · skip
    have hl : lv_has ls 5 [(0, .ref (q 0)), (1, .int 8), (2, .int x), (3, .int y), (4, .int z)] := hl
    refine lv_tableIn (x := nI 8) (off := 110) (tgt := 111) hx hb dX13_does_1 (by decide) (by decide) (by decide) (by decide) ?_
    refine lv_aload_n hx hb dX13_does_111 rfl (lv_at hl 0 rfl) ?_
    refine lv_iload_n hx hb dX13_does_112 rfl (lv_at hl 2 rfl) ?_
    have hFc := va_free (wc := bMO k q th ea fa ch tn he en ln sv wr dg ++ bI83 k (q 1) v) hD hS hA [0, 1] rfl
    refine va_calli (va_runV (As := [.int x]) (rest := []) hF (m_X13_limits l9 D k H.size q th ea fa ch tn he en ln sv wr dg v x ) (cwV 1 hts gX13_does_X13_limits rfl rfl rfl (by decide +kernel) ⟨Nat.le_of_ble_eq_true rfl, Nat.le_of_ble_eq_true rfl⟩) (wPreV hK hN hP hD [0, 1] rfl (by decide) rfl 0 11 rfl rfl) rfl rfl hl.1 rfl (lv_room (Nat.le_of_ble_eq_true rfl)) dX13_does_113 ⟨Nat.zero_le _, Nat.zero_le _⟩) hS (fun q _ h => hFc q h) hFc (fun r u9 t9 H1 locs ht hvm hw hB hz1 hk1 hS => ?_)
    obtain ⟨hP, hD⟩ := wjoin (wr := bF10 k (q 6) fl ++ bF10 k (q 10) nx) (wf := bMO k q ((opLimits v th x).2.1) ea fa ch tn he en ln sv wr dg ++ bI83 k (q 1) ((opLimits v th x).2.2) ++ bF10 k (q 6) fl ++ bF10 k (q 10) nx) hP hD [0, 1] [2, 3] [2, 3, 0, 1] rfl rfl (by decide) (by decide) hk1 hFc hB ht rfl rfl (by decide)
    subst hw
    clear hB hk1 hz1 hvm hFc
    clear ht
    clear t9
    generalize H1 = H at hP hS ⊢
    have e_33 : ((opLimits v th x).2.1 : Int32) = (doM n nl v fl nx th 8 x y z).2.1 := by first | (with_reducible rfl) | (rfl)
    have hP := Eq.mp (congrArg (fun z9 => va_P D vwCl (bMO k q z9 ea fa ch tn he en ln sv wr dg ++ bI83 k (q 1) ((opLimits v th x).2.2) ++ bF10 k (q 6) fl ++ bF10 k (q 10) nx) H) e_33) hP
    have hD := Eq.mp (congrArg (fun z9 => va_D A (bMO k q z9 ea fa ch tn he en ln sv wr dg ++ bI83 k (q 1) ((opLimits v th x).2.2) ++ bF10 k (q 6) fl ++ bF10 k (q 10) nx)) e_33) hD
    have e_34 : ((opLimits v th x).2.2 : Nat → Int32) = (doM n nl v fl nx th 8 x y z).2.2.1 := by first | (with_reducible rfl) | (rfl)
    have hP := Eq.mp (congrArg (fun z9 => va_P D vwCl (bMO k q ((doM n nl v fl nx th 8 x y z).2.1) ea fa ch tn he en ln sv wr dg ++ bI83 k (q 1) z9 ++ bF10 k (q 6) fl ++ bF10 k (q 10) nx) H) e_34) hP
    have hD := Eq.mp (congrArg (fun z9 => va_D A (bMO k q ((doM n nl v fl nx th 8 x y z).2.1) ea fa ch tn he en ln sv wr dg ++ bI83 k (q 1) z9 ++ bF10 k (q 6) fl ++ bF10 k (q 10) nx)) e_34) hD
    have e_35 : (fl : Nat → UInt32) = (doM n nl v fl nx th 8 x y z).2.2.2.1 := by first | (with_reducible rfl) | (rfl)
    have hP := Eq.mp (congrArg (fun z9 => va_P D vwCl (bMO k q ((doM n nl v fl nx th 8 x y z).2.1) ea fa ch tn he en ln sv wr dg ++ bI83 k (q 1) ((doM n nl v fl nx th 8 x y z).2.2.1) ++ bF10 k (q 6) z9 ++ bF10 k (q 10) nx) H) e_35) hP
    have hD := Eq.mp (congrArg (fun z9 => va_D A (bMO k q ((doM n nl v fl nx th 8 x y z).2.1) ea fa ch tn he en ln sv wr dg ++ bI83 k (q 1) ((doM n nl v fl nx th 8 x y z).2.2.1) ++ bF10 k (q 6) z9 ++ bF10 k (q 10) nx)) e_35) hD
    have e_36 : (nx : Nat → UInt32) = (doM n nl v fl nx th 8 x y z).2.2.2.2 := by first | (with_reducible rfl) | (rfl)
    have hP := Eq.mp (congrArg (fun z9 => va_P D vwCl (bMO k q ((doM n nl v fl nx th 8 x y z).2.1) ea fa ch tn he en ln sv wr dg ++ bI83 k (q 1) ((doM n nl v fl nx th 8 x y z).2.2.1) ++ bF10 k (q 6) ((doM n nl v fl nx th 8 x y z).2.2.2.1) ++ bF10 k (q 10) z9) H) e_36) hP
    have hD := Eq.mp (congrArg (fun z9 => va_D A (bMO k q ((doM n nl v fl nx th 8 x y z).2.1) ea fa ch tn he en ln sv wr dg ++ bI83 k (q 1) ((doM n nl v fl nx th 8 x y z).2.2.1) ++ bF10 k (q 6) ((doM n nl v fl nx th 8 x y z).2.2.2.1) ++ bF10 k (q 10) z9)) e_36) hD
    exact W.iret (v := (opLimits v th x).1) hx hb hr (fun t9 ht hW => ⟨⟨_, (), rfl, (by rfl), ⟨by rw [ht]; exact hP, va_K.moved hW.alike hK, hD⟩⟩, hS.F ht⟩) hS.2.2 dX13_does_116 hlocks
  · skip
    have hl : lv_has ls 5 [(0, .ref (q 0)), (1, .int 9), (2, .int x), (3, .int y), (4, .int z)] := hl
    refine lv_tableOut (x := nI 9) (tgt := 117) hx hb dX13_does_1 (by decide) (by decide) ?_
    refine lv_aload_n hx hb dX13_does_117 rfl (lv_at hl 0 rfl) ?_
    refine lv_iload_n hx hb dX13_does_118 rfl (lv_at hl 2 rfl) ?_
    have hFc := va_free (wc := bMO k q th ea fa ch tn he en ln sv wr dg ++ bI83 k (q 1) v ++ bF10 k (q 6) fl ++ bF10 k (q 10) nx) hD hS hA [0, 1, 2, 3] rfl
    refine va_calli (va_runV (As := [.int x]) (rest := []) hF (m_X13_passes l9 D k H.size q th ea fa ch tn he en ln sv wr dg v fl nx n nl x hn hv0 hf hly hnl hv4) (cwV 1 hts gX13_does_X13_passes rfl rfl rfl (by decide +kernel) ⟨Nat.le_of_ble_eq_true rfl, Nat.le_of_ble_eq_true rfl⟩) (wPreV hK hN hP hD [0, 1, 2, 3] rfl (by decide) rfl 0 11 rfl rfl) rfl rfl hl.1 rfl (lv_room (Nat.le_of_ble_eq_true rfl)) dX13_does_119 ⟨Nat.zero_le _, Nat.zero_le _⟩) hS (fun q _ h => hFc q h) hFc (fun r u9 t9 H1 locs ht hvm hw hB hz1 hk1 hS => ?_)
    obtain ⟨hP, hD⟩ := wjoin (wr := []) (wf := bMO k q (if rg 1 x 20 = true then th else (1 : Int32)) ea fa ch tn he en ln sv wr dg ++ bI83 k (q 1) ((if rg 1 x 20 = true then itP n (v, fl, nx, nl) x.toNatClampNeg else (v, fl, nx, nl)).1) ++ bF10 k (q 6) ((if rg 1 x 20 = true then itP n (v, fl, nx, nl) x.toNatClampNeg else (v, fl, nx, nl)).2.1) ++ bF10 k (q 10) ((if rg 1 x 20 = true then itP n (v, fl, nx, nl) x.toNatClampNeg else (v, fl, nx, nl)).2.2.1)) hP hD [0, 1, 2, 3] [] [0, 1, 2, 3] rfl rfl (by decide) (by decide) hk1 hFc hB ht rfl rfl (by decide)
    subst hw
    clear hB hk1 hz1 hvm hFc
    clear ht
    clear t9
    generalize H1 = H at hP hS ⊢
    have e_37 : (if rg 1 x 20 = true then th else (1 : Int32) : Int32) = (doM n nl v fl nx th 9 x y z).2.1 := by first | (with_reducible rfl) | (rfl)
    have hP := Eq.mp (congrArg (fun z9 => va_P D vwCl (bMO k q z9 ea fa ch tn he en ln sv wr dg ++ bI83 k (q 1) ((if rg 1 x 20 = true then itP n (v, fl, nx, nl) x.toNatClampNeg else (v, fl, nx, nl)).1) ++ bF10 k (q 6) ((if rg 1 x 20 = true then itP n (v, fl, nx, nl) x.toNatClampNeg else (v, fl, nx, nl)).2.1) ++ bF10 k (q 10) ((if rg 1 x 20 = true then itP n (v, fl, nx, nl) x.toNatClampNeg else (v, fl, nx, nl)).2.2.1)) H) e_37) hP
    have hD := Eq.mp (congrArg (fun z9 => va_D A (bMO k q z9 ea fa ch tn he en ln sv wr dg ++ bI83 k (q 1) ((if rg 1 x 20 = true then itP n (v, fl, nx, nl) x.toNatClampNeg else (v, fl, nx, nl)).1) ++ bF10 k (q 6) ((if rg 1 x 20 = true then itP n (v, fl, nx, nl) x.toNatClampNeg else (v, fl, nx, nl)).2.1) ++ bF10 k (q 10) ((if rg 1 x 20 = true then itP n (v, fl, nx, nl) x.toNatClampNeg else (v, fl, nx, nl)).2.2.1))) e_37) hD
    have e_38 : ((if rg 1 x 20 = true then itP n (v, fl, nx, nl) x.toNatClampNeg else (v, fl, nx, nl)).1 : Nat → Int32) = (doM n nl v fl nx th 9 x y z).2.2.1 := by first | (with_reducible rfl) | (rfl)
    have hP := Eq.mp (congrArg (fun z9 => va_P D vwCl (bMO k q ((doM n nl v fl nx th 9 x y z).2.1) ea fa ch tn he en ln sv wr dg ++ bI83 k (q 1) z9 ++ bF10 k (q 6) ((if rg 1 x 20 = true then itP n (v, fl, nx, nl) x.toNatClampNeg else (v, fl, nx, nl)).2.1) ++ bF10 k (q 10) ((if rg 1 x 20 = true then itP n (v, fl, nx, nl) x.toNatClampNeg else (v, fl, nx, nl)).2.2.1)) H) e_38) hP
    have hD := Eq.mp (congrArg (fun z9 => va_D A (bMO k q ((doM n nl v fl nx th 9 x y z).2.1) ea fa ch tn he en ln sv wr dg ++ bI83 k (q 1) z9 ++ bF10 k (q 6) ((if rg 1 x 20 = true then itP n (v, fl, nx, nl) x.toNatClampNeg else (v, fl, nx, nl)).2.1) ++ bF10 k (q 10) ((if rg 1 x 20 = true then itP n (v, fl, nx, nl) x.toNatClampNeg else (v, fl, nx, nl)).2.2.1))) e_38) hD
    have e_39 : ((if rg 1 x 20 = true then itP n (v, fl, nx, nl) x.toNatClampNeg else (v, fl, nx, nl)).2.1 : Nat → UInt32) = (doM n nl v fl nx th 9 x y z).2.2.2.1 := by first | (with_reducible rfl) | (rfl)
    have hP := Eq.mp (congrArg (fun z9 => va_P D vwCl (bMO k q ((doM n nl v fl nx th 9 x y z).2.1) ea fa ch tn he en ln sv wr dg ++ bI83 k (q 1) ((doM n nl v fl nx th 9 x y z).2.2.1) ++ bF10 k (q 6) z9 ++ bF10 k (q 10) ((if rg 1 x 20 = true then itP n (v, fl, nx, nl) x.toNatClampNeg else (v, fl, nx, nl)).2.2.1)) H) e_39) hP
    have hD := Eq.mp (congrArg (fun z9 => va_D A (bMO k q ((doM n nl v fl nx th 9 x y z).2.1) ea fa ch tn he en ln sv wr dg ++ bI83 k (q 1) ((doM n nl v fl nx th 9 x y z).2.2.1) ++ bF10 k (q 6) z9 ++ bF10 k (q 10) ((if rg 1 x 20 = true then itP n (v, fl, nx, nl) x.toNatClampNeg else (v, fl, nx, nl)).2.2.1))) e_39) hD
    have e_40 : ((if rg 1 x 20 = true then itP n (v, fl, nx, nl) x.toNatClampNeg else (v, fl, nx, nl)).2.2.1 : Nat → UInt32) = (doM n nl v fl nx th 9 x y z).2.2.2.2 := by first | (with_reducible rfl) | (rfl)
    have hP := Eq.mp (congrArg (fun z9 => va_P D vwCl (bMO k q ((doM n nl v fl nx th 9 x y z).2.1) ea fa ch tn he en ln sv wr dg ++ bI83 k (q 1) ((doM n nl v fl nx th 9 x y z).2.2.1) ++ bF10 k (q 6) ((doM n nl v fl nx th 9 x y z).2.2.2.1) ++ bF10 k (q 10) z9) H) e_40) hP
    have hD := Eq.mp (congrArg (fun z9 => va_D A (bMO k q ((doM n nl v fl nx th 9 x y z).2.1) ea fa ch tn he en ln sv wr dg ++ bI83 k (q 1) ((doM n nl v fl nx th 9 x y z).2.2.1) ++ bF10 k (q 6) ((doM n nl v fl nx th 9 x y z).2.2.2.1) ++ bF10 k (q 10) z9)) e_40) hD
    exact W.iret (v := if rg 1 x 20 = true then (itP n (v, fl, nx, nl) x.toNatClampNeg).1 3 - v 3 else 0) hx hb hr (fun t9 ht hW => ⟨⟨_, (), rfl, (by rfl), ⟨by rw [ht]; exact hP, va_K.moved hW.alike hK, hD⟩⟩, hS.F ht⟩) hS.2.2 dX13_does_122 hlocks
