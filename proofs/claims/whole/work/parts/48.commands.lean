/-! The two sides carry out one command alike. -/
theorem it_sc (n : Nat) (a ly kd : Nat → Int32) (lim : Int32) (s : CS) (r : Nat) : ∃ k, k ≤ r ∧ (itS n a ly kd lim s r).2.2.2.2.2.2.2.1 = s.2.2.2.2.2.2.2.1 + nI k := by
  induction r with
  | zero => exact ⟨0, Nat.le_refl _, (Int32.add_zero _).symm⟩
  | succ r ih =>
    obtain ⟨k, hk, e⟩ := ih
    show ∃ k, k ≤ r + 1 ∧ (shS n a ly kd lim (itS n a ly kd lim s r)).2.2.2.2.2.2.2.1 = _
    generalize itS n a ly kd lim s r = T at e ⊢
    show ∃ k, k ≤ r + 1 ∧ (if ovS n a ly lim T = true then T.2.2.2.2.2.2.2.1 + 1 else T.2.2.2.2.2.2.2.1) = _
    split
    · exact ⟨k + 1, by omega, by rw [e, Int32.add_assoc, nI_1]⟩
    · exact ⟨k, by omega, e⟩
theorem add_sb (x : Int32) (k : Nat) : x + nI k - x = nI k := by
  rw [Int32.add_comm, Int32.sub_eq_add_neg, Int32.add_assoc, ← Int32.sub_eq_add_neg, Int32.sub_self, Int32.add_zero]
theorem rg_20 (x : Int32) : rg 1 x 20 = true ↔ ¬ x < 1 ∧ x ≤ 20 := by
  rw [rg_iff]
  exact ⟨fun h => ⟨Int32.not_lt.mpr h.1, h.2⟩, fun h => ⟨Int32.not_lt.mp h.1, h.2⟩⟩
theorem inC_n0 {n : Nat} {x : Int32} (h : inC n x = true) : ¬ x < 0 := Int32.not_lt.mpr (of_decide_eq_true h).1
/-- a state's limit -/
abbrev limS (S : SC) : Int32 := S.2.2.2.2.2.2.2.2.2.2.2.2.1
/-- the answer and what stands behind a command on the class's side; what is thrown and what stands on the model's -/
def CoR (c : Int32 × SC) (m : MR) : Prop := (c.1 < 0 ∧ ¬ m.2.1 = 0) ∨ (¬ c.1 < 0 ∧ m.2.1 = 0 ∧ RelS c.2 m.2.2.1 m.2.2.2.1 ∧ ¬ limS c.2 < 0)
theorem CoR.bad {c : Int32 × SC} {m : MR} {a b : Int32} (h1 : c.1 = a) (h2 : m.2.1 = b) (ha : a < 0) (hb : ¬ b = 0) : CoR c m := Or.inl ⟨by rw [h1]; exact ha, by rw [h2]; exact hb⟩
theorem rel_co {S : SC} {v : Nat → Int32} {fl : Nat → UInt32} (hS : okC S) (h : RelS S v fl) (hlim : ¬ limS S < 0) (nx : Nat → UInt32) {i : Nat} (hi : i < 10) {x y z y' z' : Int32} (hy : 1 ≤ i ∧ i ≤ 7 → y' = y) (hz : i = 5 → z' = z) (cy : i = 4 → chC y = y) (cz : i = 5 → chC z = z) :
    CoR (coS i x y' z' S) (doV v fl nx 0 i x y z) := by
  obtain ⟨n, w, ly, t, a, fx, kd, rk, lsh, lk, lc, lx, lim, sh, sc, fr⟩ := S
  obtain ⟨hn, hf, hly, hlc, hlx, -, -, -, hzz, hs, -, hw, hkd, hrk⟩ := hS
  obtain ⟨hR, hL⟩ := h
  have hn : n ≤ 10 := hn
  have hlc : lc ≤ 16 := hlc
  have hlx : lx < 16 := hlx
  have hlim : ¬ lim < 0 := hlim
  have hly : lyOk n ly := hly
  have hs : Sym n t a := hs
  have hkd : ∀ j, j < 4 → kd j = 113 ∨ kd j = 111 ∨ kd j = 97 := hkd
  have hrk : ∀ j, j < 12 → rk j = 46 ∨ rk j = 113 ∨ rk j = 111 := hrk
  have hzz : ∀ c, n ≤ c → c < 10 → fx c = FP.fconst0 ∧ ly c = 0 ∧ t c = 0 ∧ a c = 0 := hzz
  have hR : RC n w ly t fx kd rk lim v fl := hR
  have hL : RLg lsh lk lc lx sh sc v := hL
  have e0 : nOf v = n := by show (v 0).toNatClampNeg = n; rw [hR.1, nI_clamp (by omega)]
  have e4 : lOf v = lc := by show (v 4).toNatClampNeg = lc; rw [hL.2.2.1, nI_clamp (by omega)]
  have eD : doV v fl nx 0 i x y z = doM n lc v fl nx 0 i x y z := by unfold doV; rw [e0, e4]
  rw [eD]
  have N1 : (-1 : Int32) < 0 := by decide
  have N2 : (-2 : Int32) < 0 := by decide
  have N3 : (-3 : Int32) < 0 := by decide
  have N4 : (-4 : Int32) < 0 := by decide
  have N5 : (-5 : Int32) < 0 := by decide
  have M1 : ¬ (1 : Int32) = 0 := by decide
  have M2 : ¬ (2 : Int32) = 0 := by decide
  have M3 : ¬ (3 : Int32) = 0 := by decide
  have M4 : ¬ (4 : Int32) = 0 := by decide
  rcases lt10 hi with e | e | e | e | e | e | e | e | e | e <;> subst e
  · rcases rel_enter (a := a) hn hzz hlc hR hL 0 x with ⟨e1, e2⟩ | ⟨e1, e2⟩ | ⟨e1, -, e2, e3, f1, f2⟩
    · exact CoR.bad (congrArg (·.1) e1) (congrArg (·.2.1) e2) N2 M1
    · exact CoR.bad (congrArg (·.1) e1) (congrArg (·.2.1) e2) N3 M2
    · refine Or.inr ⟨?_, e3, ⟨?_, f2⟩, hlim⟩
      · show ¬ (opEnter n w x).1 < 0
        rw [e1]; exact nI_pos (by omega)
      · show RC (opEnter n w x).2.1 (opEnter n w x).2.2 ly t fx kd rk lim _ _
        rw [e1]; exact f1
  · have ey := hy (by decide)
    subst ey
    rcases rel_direct (a := a) hn hlc hR hL 0 x y' true with ⟨e1, e2⟩ | ⟨-, -, e1, e2, e3, f1, f2⟩
    · exact CoR.bad (congrArg (·.1) e1) (congrArg (·.2.1) e2) N1 M1
    · refine Or.inr ⟨?_, e3, ⟨f1, f2⟩, hlim⟩
      show ¬ (opDirect n t a x y' true).1 < 0
      rw [e1]; cases tb (t x.toNatClampNeg) y'.toNatClampNeg <;> decide
  · have ey := hy (by decide)
    subst ey
    rcases rel_direct (a := a) hn hlc hR hL 0 x y' false with ⟨e1, e2⟩ | ⟨-, -, e1, e2, e3, f1, f2⟩
    · exact CoR.bad (congrArg (·.1) e1) (congrArg (·.2.1) e2) N1 M1
    · refine Or.inr ⟨?_, e3, ⟨f1, f2⟩, hlim⟩
      show ¬ (opDirect n t a x y' false).1 < 0
      rw [e1]; cases tb (t x.toNatClampNeg) y'.toNatClampNeg <;> decide
  · have ey := hy (by decide)
    subst ey
    rcases rel_move hn hlc hR hL 0 x y' with ⟨e1, e2⟩ | ⟨e0, e1, e2, e3, f1, f2⟩
    · exact CoR.bad (congrArg (·.1) e1) (congrArg (·.2.1) e2) N1 M1
    · refine Or.inr ⟨?_, e3, ⟨f1, f2⟩, hlim⟩
      show ¬ (opMove n ly x y').1 < 0
      obtain ⟨j, hj, rfl⟩ := inC_of hn e0
      rw [e1, nI_clamp (by omega), (hly j hj).1]
      exact nI_pos (by have := (hly j hj).2; omega)
  · have ey := hy (by decide)
    subst ey
    have ec := cy rfl
    have eco : coS 4 x y' z' (n, w, ly, t, a, fx, kd, rk, lsh, lk, lc, lx, lim, sh, sc, fr) = ((opRenew kd rk x y').1, n, w, ly, t, a, fx, (opRenew kd rk x y').2, rk, lsh, lk, lc, lx, lim, sh, sc, fr) := by
      show ((opRenew kd rk x (chC y')).1, n, w, ly, t, a, fx, (opRenew kd rk x (chC y')).2, rk, lsh, lk, lc, lx, lim, sh, sc, fr) = _
      rw [ec]
    rw [eco]
    rcases rel_renew hn hlc hR hL 0 x y' with ⟨e1, e2⟩ | ⟨e1, e2⟩ | ⟨e1, e2⟩ | ⟨e0, e1, e2, e3, f1, f2⟩
    · exact CoR.bad (congrArg (·.1) e1) (congrArg (·.2.1) e2) N1 M1
    · exact CoR.bad (congrArg (·.1) e1) (congrArg (·.2.1) e2) N2 M2
    · exact CoR.bad (congrArg (·.1) e1) (congrArg (·.2.1) e2) N3 M3
    · refine Or.inr ⟨?_, e3, ⟨f1, f2⟩, hlim⟩
      show ¬ (opRenew kd rk x y').1 < 0
      obtain ⟨j, hj, rfl⟩ := rg_of (m := 3) (by decide) e0
      rw [e1, nI_clamp (by omega)]
      rcases hkd j (by omega) with q | q | q
      · rw [show kd j = 113 from q]; decide
      · rw [show kd j = 111 from q]; decide
      · rw [show kd j = 97 from q]; decide
  · have ey := hy (by decide)
    subst ey
    have ez := hz rfl
    subst ez
    have ec := cz rfl
    have eco : coS 5 x y' z' (n, w, ly, t, a, fx, kd, rk, lsh, lk, lc, lx, lim, sh, sc, fr) = ((opPut kd rk x y' z').1, n, w, ly, t, a, fx, kd, (opPut kd rk x y' z').2, (if (opPut kd rk x y' z').1 < 0 then lsh else upd lsh lx sh), (if (opPut kd rk x y' z').1 < 0 then lk else upd lk lx 105), (if (opPut kd rk x y' z').1 < 0 then lc else min (lc + 1) 16), (if (opPut kd rk x y' z').1 < 0 then lx else (lx + 1) % 16), lim, sh, sc, fr) := by
      show ((opPut kd rk x y' (chC z')).1, n, w, ly, t, a, fx, kd, (opPut kd rk x y' (chC z')).2, (if (opPut kd rk x y' (chC z')).1 < 0 then lsh else upd lsh lx sh), (if (opPut kd rk x y' (chC z')).1 < 0 then lk else upd lk lx 105), (if (opPut kd rk x y' (chC z')).1 < 0 then lc else min (lc + 1) 16), (if (opPut kd rk x y' (chC z')).1 < 0 then lx else (lx + 1) % 16), lim, sh, sc, fr) = _
      rw [ec]
    rw [eco]
    rcases rel_put hn hlc hlx hrk hR hL 0 x y' z' with ⟨e1, e2⟩ | ⟨e1, e2⟩ | ⟨e1, e2⟩ | ⟨e1, e2⟩ | ⟨e0, e2, e3, f1, f2⟩
    · exact CoR.bad (congrArg (·.1) e1) (congrArg (·.2.1) e2) N1 M1
    · exact CoR.bad (congrArg (·.1) e1) (congrArg (·.2.1) e2) N2 M2
    · exact CoR.bad (congrArg (·.1) e1) (congrArg (·.2.1) e2) N3 M3
    · exact CoR.bad (congrArg (·.1) e1) (congrArg (·.2.1) e2) N4 M4
    · rw [if_neg e0, if_neg e0, if_neg e0, if_neg e0]
      exact Or.inr ⟨e0, e3, ⟨f1, f2⟩, hlim⟩
  · have ey := hy (by decide)
    subst ey
    show CoR ((opTake rk x y').1, n, w, ly, t, a, fx, kd, (opTake rk x y').2, (if (opTake rk x y').1 < 0 then lsh else upd lsh lx sh), (if (opTake rk x y').1 < 0 then lk else upd lk lx 119), (if (opTake rk x y').1 < 0 then lc else min (lc + 1) 16), (if (opTake rk x y').1 < 0 then lx else (lx + 1) % 16), lim, sh, sc, fr) _
    rcases rel_take hn hlc hlx hrk hR hL 0 x y' with ⟨e1, e2⟩ | ⟨e1, e2⟩ | ⟨e0, e2, e3, f1, f2⟩
    · exact CoR.bad (congrArg (·.1) e1) (congrArg (·.2.1) e2) N1 M1
    · exact CoR.bad (congrArg (·.1) e1) (congrArg (·.2.1) e2) N5 M2
    · have e0 : ¬ (opTake rk x y').1 < 0 := by rcases e0 with q | q <;> rw [q] <;> decide
      rw [if_neg e0, if_neg e0, if_neg e0, if_neg e0]
      exact Or.inr ⟨e0, e3, ⟨f1, f2⟩, hlim⟩
  · have ey := hy (by decide)
    subst ey
    show CoR ((opHeat n fx x y').1, n, w, ly, t, a, (opHeat n fx x y').2, kd, rk, (if hOk n x y' = false then lsh else upd lsh lx sh), (if hOk n x y' = false then lk else upd lk lx 101), (if hOk n x y' = false then lc else min (lc + 1) 16), (if hOk n x y' = false then lx else (lx + 1) % 16), lim, sh, sc, fr) _
    rcases rel_heat hn hlc hlx hR hL 0 x y' with ⟨e1, -, e2⟩ | ⟨e1, -, e2⟩ | ⟨e0, eh, e1, e2, e3, -, f1, f2⟩
    · exact CoR.bad (congrArg (·.1) e1) (congrArg (·.2.1) e2) N1 M1
    · exact CoR.bad (congrArg (·.1) e1) (congrArg (·.2.1) e2) N2 M2
    · have eh : ¬ hOk n x y' = false := by rw [eh]; decide
      rw [if_neg eh, if_neg eh, if_neg eh, if_neg eh]
      refine Or.inr ⟨?_, e3, ⟨f1, f2⟩, hlim⟩
      show ¬ (opHeat n fx x y').1 < 0
      rw [e1]; exact inC_n0 e0
  · show CoR ((if 1 ≤ x ∧ x ≤ 9999 then lim else -2), n, w, ly, t, a, fx, kd, rk, lsh, lk, lc, lx, (if 1 ≤ x ∧ x ≤ 9999 then x else lim), sh, sc, fr) _
    rcases rel_limit hn hlc hR hL 0 x with ⟨e1, e2⟩ | ⟨e0, e2, e3, f1, f2⟩
    · exact CoR.bad (if_neg e1) (congrArg (·.2.1) e2) N2 M1
    · rw [if_pos e0, if_pos e0]
      exact Or.inr ⟨hlim, e3, ⟨f1, f2⟩, fun q => by
        have q : x < 0 := q
        have := e0.1
        rw [Int32.lt_iff_toInt_lt, i32_0] at q
        rw [Int32.le_iff_toInt_le, i32_1] at this
        omega⟩
  · have hT : RT n w ly t kd lim (fx, rk, lsh, lk, lc, lx, sh, sc, fr) (v, fl, nx, lc) := ⟨hR, hL, rfl, hlc, hlx, hrk⟩
    by_cases q : rg 1 x 20 = true
    · obtain ⟨q1, q2⟩ := (rg_20 x).mp q
      have eT : advT n a ly kd lim (fx, rk, lsh, lk, lc, lx, sh, sc, fr) x = itS n a ly kd lim (fx, rk, lsh, lk, lc, lx, sh, sc, fr) x.toNatClampNeg := by unfold advT; rw [if_neg q1, if_pos q2]
      have eR : advR n a ly kd lim (fx, rk, lsh, lk, lc, lx, sh, sc, fr) x = (itS n a ly kd lim (fx, rk, lsh, lk, lc, lx, sh, sc, fr) x.toNatClampNeg).2.2.2.2.2.2.2.1 - sc := by unfold advR; rw [if_neg q1, if_pos q2]
      obtain ⟨k, hk, ek⟩ := it_sc n a ly kd lim (fx, rk, lsh, lk, lc, lx, sh, sc, fr) x.toNatClampNeg
      have hI := rel_itP hn hs hly hT x.toNatClampNeg
      obtain ⟨j, hj, rfl⟩ := rg1_of (m := 20) (by decide) q
      rw [nI_clamp (by omega)] at hk
      have hno : ¬ (coS 9 (nI j) y' z' (n, w, ly, t, a, fx, kd, rk, lsh, lk, lc, lx, lim, sh, sc, fr)).1 < 0 := by
        show ¬ advR n a ly kd lim (fx, rk, lsh, lk, lc, lx, sh, sc, fr) (nI j) < 0
        rw [eR, ek]
        show ¬ sc + nI k - sc < 0
        rw [add_sb]; exact nI_pos (by omega)
      have hm : (doM n lc v fl nx 0 9 (nI j) y z).2.1 = 0 := if_pos q
      refine Or.inr ⟨hno, hm, ⟨?_, ?_⟩, hlim⟩
      · show RC n w ly t (advT n a ly kd lim (fx, rk, lsh, lk, lc, lx, sh, sc, fr) (nI j)).1 kd (advT n a ly kd lim (fx, rk, lsh, lk, lc, lx, sh, sc, fr) (nI j)).2.1 lim (if rg 1 (nI j) 20 = true then itP n (v, fl, nx, lc) (nI j).toNatClampNeg else (v, fl, nx, lc)).1 (if rg 1 (nI j) 20 = true then itP n (v, fl, nx, lc) (nI j).toNatClampNeg else (v, fl, nx, lc)).2.1
        rw [if_pos q, eT]; exact hI.1
      · show RLg (advT n a ly kd lim (fx, rk, lsh, lk, lc, lx, sh, sc, fr) (nI j)).2.2.1 (advT n a ly kd lim (fx, rk, lsh, lk, lc, lx, sh, sc, fr) (nI j)).2.2.2.1 (advT n a ly kd lim (fx, rk, lsh, lk, lc, lx, sh, sc, fr) (nI j)).2.2.2.2.1 (advT n a ly kd lim (fx, rk, lsh, lk, lc, lx, sh, sc, fr) (nI j)).2.2.2.2.2.1 (advT n a ly kd lim (fx, rk, lsh, lk, lc, lx, sh, sc, fr) (nI j)).2.2.2.2.2.2.1 (advT n a ly kd lim (fx, rk, lsh, lk, lc, lx, sh, sc, fr) (nI j)).2.2.2.2.2.2.2.1 (if rg 1 (nI j) 20 = true then itP n (v, fl, nx, lc) (nI j).toNatClampNeg else (v, fl, nx, lc)).1
        rw [if_pos q, eT]; exact hI.2.1
    · have eR : advR n a ly kd lim (fx, rk, lsh, lk, lc, lx, sh, sc, fr) x = -2 := by
        unfold advR
        by_cases q1 : x < 1
        · rw [if_pos q1]
        · rw [if_neg q1, if_neg (fun q2 => q ((rg_20 x).mpr ⟨q1, q2⟩))]
      exact CoR.bad (a := -2) (b := 1) eR (if_neg q) N2 M1
