/-! The class's state and the model's numbers say the same. -/
/-- a remark as the model has it -/
def rmM (x : Int32) : Int32 := if x = 46 then 0 else x
/-- claims, racks, limit -/
def RC (n : Nat) (w ly t : Nat → Int32) (fx : Nat → UInt32) (kd rk : Nat → Int32) (lim : Int32) (v : Nat → Int32) (fl : Nat → UInt32) : Prop :=
  v 0 = nI n ∧ v 1 = lim ∧ (∀ c, c < n → vw v c = w c ∧ vl v c = ly c ∧ vt v c = t c ∧ fl c = fx c) ∧
  (∀ j, j < 4 → v (35 + 4 * j) = kd j ∧ ∀ i, i < 3 → v (35 + 4 * j + (i + 1)) = rmM (rk (j * 3 + i)))
/-- shifts, scrams, the log -/
def RLg (lsh lk : Nat → Int32) (lc lx : Nat) (sh sc : Int32) (v : Nat → Int32) : Prop :=
  v 2 = sh ∧ v 3 = sc ∧ v 4 = nI lc ∧ ∀ i, i < lc → v (51 + 2 * i) = lsh ((lx + 16 - lc + i) % 16) ∧ v (51 + 2 * i + 1) = lk ((lx + 16 - lc + i) % 16)
def RelS (s : SC) (v : Nat → Int32) (fl : Nat → UInt32) : Prop :=
  RC s.1 s.2.1 s.2.2.1 s.2.2.2.1 s.2.2.2.2.2.1 s.2.2.2.2.2.2.1 s.2.2.2.2.2.2.2.1 s.2.2.2.2.2.2.2.2.2.2.2.2.1 v fl ∧ RLg s.2.2.2.2.2.2.2.2.1 s.2.2.2.2.2.2.2.2.2.1 s.2.2.2.2.2.2.2.2.2.2.1 s.2.2.2.2.2.2.2.2.2.2.2.1 s.2.2.2.2.2.2.2.2.2.2.2.2.2.1 s.2.2.2.2.2.2.2.2.2.2.2.2.2.2.1 v
/-- an entry of the log -/
theorem lgS_e {v : Nat → Int32} {n : Nat} (h : n ≤ 16) (k : Int32) {i N : Nat} (hN : N = if n = 16 then 16 else n + 1) (hi : i < N) :
    (i + 1 = N → lgS v n k (51 + 2 * i) = v 2 ∧ lgS v n k (51 + 2 * i + 1) = k) ∧
    (¬ i + 1 = N → lgS v n k (51 + 2 * i) = v (51 + 2 * (if n = 16 then i + 1 else i)) ∧ lgS v n k (51 + 2 * i + 1) = v (51 + 2 * (if n = 16 then i + 1 else i) + 1)) := by
  unfold lgS lgW
  by_cases e : n = 16
  · simp only [if_pos e] at hN ⊢
    constructor
    · intro q
      have e1 : i = 15 := by omega
      subst e1
      constructor
      · rw [upd_at, if_neg (by omega), upd_at, if_neg (by omega), upd_at, if_pos (by omega), upd_at, if_neg (by omega)]
        unfold lgm
        rw [if_neg (by omega)]
      · rw [upd_at, if_neg (by omega), upd_at, if_pos (by omega)]
    · intro q
      constructor
      · rw [upd_at, if_neg (by omega), upd_at, if_neg (by omega), upd_at, if_neg (by omega), upd_at, if_neg (by omega)]
        unfold lgm
        rw [if_pos (by omega), show 51 + 2 * i + 2 = 51 + 2 * (i + 1) by omega]
      · rw [upd_at, if_neg (by omega), upd_at, if_neg (by omega), upd_at, if_neg (by omega), upd_at, if_neg (by omega)]
        unfold lgm
        rw [if_pos (by omega), show 51 + 2 * i + 1 + 2 = 51 + 2 * (i + 1) + 1 by omega]
  · simp only [if_neg e] at hN ⊢
    constructor
    · intro q
      have e1 : i = n := by omega
      subst e1
      constructor
      · rw [upd_at, if_neg (by omega), upd_at, if_neg (by omega), upd_at, if_pos rfl]
      · rw [upd_at, if_neg (by omega), upd_at, if_pos rfl]
    · intro q
      constructor
      · rw [upd_at, if_neg (by omega), upd_at, if_neg (by omega), upd_at, if_neg (by omega)]
      · rw [upd_at, if_neg (by omega), upd_at, if_neg (by omega), upd_at, if_neg (by omega)]
theorem min16 {n : Nat} (h : n ≤ 16) : min (n + 1) 16 = if n = 16 then 16 else n + 1 := by
  by_cases e : n = 16
  · subst e; rfl
  · rw [if_neg e]; exact Nat.min_eq_left (by omega)
theorem RLg_lg {lsh lk : Nat → Int32} {lc lx : Nat} {sh sc : Int32} {v : Nat → Int32} (h : RLg lsh lk lc lx sh sc v) (hc : lc ≤ 16) (hx : lx < 16) (z : Int32) : RLg (upd lsh lx sh) (upd lk lx z) (min (lc + 1) 16) ((lx + 1) % 16) sh sc (lgS v lc z) := by
  obtain ⟨h2, h3, h4, hL⟩ := h
  refine ⟨by rw [lgS_lo v hc z (by omega) (by omega)]; exact h2, by rw [lgS_lo v hc z (by omega) (by omega)]; exact h3, lgS_4 v hc z, fun i hi => ?_⟩
  have hN := min16 hc
  generalize min (lc + 1) 16 = N at hN hi ⊢
  obtain ⟨g1, g2⟩ := lgS_e (v := v) hc z hN hi
  by_cases q : i + 1 = N
  · obtain ⟨e1, e2⟩ := g1 q
    have hN3 : N ≤ 16 := by rw [hN]; split <;> omega
    have ei : ((lx + 1) % 16 + 16 - N + i) % 16 = lx := by omega
    rw [e1, e2, ei, upd_at, if_pos rfl, upd_at, if_pos rfl]
    exact ⟨h2, rfl⟩
  · obtain ⟨e1, e2⟩ := g2 q
    rw [e1, e2]
    by_cases e : lc = 16
    · simp only [if_pos e] at hN ⊢
      obtain ⟨a1, a2⟩ := hL (i + 1) (by omega)
      rw [a1, a2]
      have ei : ((lx + 1) % 16 + 16 - N + i) % 16 = (lx + 16 - lc + (i + 1)) % 16 := by omega
      rw [ei, upd_at, if_neg (by omega), upd_at, if_neg (by omega)]
      exact ⟨rfl, rfl⟩
    · simp only [if_neg e] at hN ⊢
      obtain ⟨a1, a2⟩ := hL i (by omega)
      rw [a1, a2]
      have ei : ((lx + 1) % 16 + 16 - N + i) % 16 = (lx + 16 - lc + i) % 16 := by omega
      rw [ei, upd_at, if_neg (by omega), upd_at, if_neg (by omega)]
      exact ⟨rfl, rfl⟩
theorem RLg_cong {lsh lk : Nat → Int32} {lc lx : Nat} {sh sc : Int32} {v v' : Nat → Int32} (h : RLg lsh lk lc lx sh sc v) (hc : lc ≤ 16) (e2 : v' 2 = v 2) (e3 : v' 3 = v 3) (e4 : v' 4 = v 4) (e : ∀ j, 51 ≤ j → j < 83 → v' j = v j) : RLg lsh lk lc lx sh sc v' := by
  obtain ⟨h2, h3, h4, hL⟩ := h
  refine ⟨e2.trans h2, e3.trans h3, e4.trans h4, fun i hi => ?_⟩
  obtain ⟨a1, a2⟩ := hL i hi
  exact ⟨(e _ (by omega) (by omega)).trans a1, (e _ (by omega) (by omega)).trans a2⟩
theorem RC_cong {n : Nat} {w ly t : Nat → Int32} {fx : Nat → UInt32} {kd rk : Nat → Int32} {lim : Int32} {v v' : Nat → Int32} {fl : Nat → UInt32} (h : RC n w ly t fx kd rk lim v fl) (hn : n ≤ 10) (e0 : v' 0 = v 0) (e1 : v' 1 = v 1) (e : ∀ j, 5 ≤ j → j < 51 → v' j = v j) : RC n w ly t fx kd rk lim v' fl := by
  obtain ⟨h0, h1, hC, hR⟩ := h
  refine ⟨e0.trans h0, e1.trans h1, fun c hc => ?_, fun j hj => ?_⟩
  · obtain ⟨a1, a2, a3, a4⟩ := hC c hc
    exact ⟨(e _ (by omega) (by omega)).trans a1, (e _ (by omega) (by omega)).trans a2, (e _ (by omega) (by omega)).trans a3, a4⟩
  · obtain ⟨a1, a2⟩ := hR j hj
    exact ⟨(e _ (by omega) (by omega)).trans a1, fun i hi => (e _ (by omega) (by omega)).trans (a2 i hi)⟩
theorem RC_lg {n : Nat} {w ly t : Nat → Int32} {fx : Nat → UInt32} {kd rk : Nat → Int32} {lim : Int32} {v : Nat → Int32} {fl : Nat → UInt32} (h : RC n w ly t fx kd rk lim v fl) (hn : n ≤ 10) {lc : Nat} (hc : lc ≤ 16) (z : Int32) : RC n w ly t fx kd rk lim (lgS v lc z) fl :=
  RC_cong h hn (lgS_lo v hc z (by omega) (by omega)) (lgS_lo v hc z (by omega) (by omega)) (fun j h1 h2 => lgS_lo v hc z h2 (by omega))
theorem rg_iff {lo x hi : Int32} : rg lo x hi = true ↔ lo ≤ x ∧ x ≤ hi := by
  unfold rg
  exact decide_eq_true_iff
/-- a claim enters -/
theorem rel_enter {n : Nat} {w ly t a : Nat → Int32} {fx : Nat → UInt32} {kd rk lsh lk : Nat → Int32} {lc lx : Nat} {lim sh sc : Int32} {v : Nat → Int32} {fl : Nat → UInt32} (hn : n ≤ 10) (hz : ∀ c, n ≤ c → c < 10 → fx c = FP.fconst0 ∧ ly c = 0 ∧ t c = 0 ∧ a c = 0) (hlc : lc ≤ 16) (h : RC n w ly t fx kd rk lim v fl) (hL : RLg lsh lk lc lx sh sc v) (th x : Int32) :
    (opEnter n w x = (-2, n, w) ∧ opAdds v fl n th x = (0, 1, v, fl)) ∨ (opEnter n w x = (-3, n, w) ∧ opAdds v fl n th x = (0, 2, v, fl)) ∨
    (opEnter n w x = (nI n, n + 1, upd w n x) ∧ n < 10 ∧ (opAdds v fl n th x).1 = nI n ∧ (opAdds v fl n th x).2.1 = th ∧ RC (n + 1) (upd w n x) ly t fx kd rk lim (opAdds v fl n th x).2.2.1 (opAdds v fl n th x).2.2.2 ∧ RLg lsh lk lc lx sh sc (opAdds v fl n th x).2.2.1) := by
  unfold opEnter opAdds
  by_cases q : 1 ≤ x ∧ x ≤ 99
  · rw [if_pos q, if_pos (rg_iff.mpr q)]
    by_cases q2 : n = 10
    · rw [if_neg (by omega), if_pos q2]
      exact Or.inr (Or.inl ⟨rfl, rfl⟩)
    · rw [if_pos (by omega), if_neg q2]
      refine Or.inr (Or.inr ⟨rfl, by omega, rfl, rfl, ?_, ?_⟩)
      · obtain ⟨h0, h1, hC, hR⟩ := h
        refine ⟨by dsimp only; rw [upd_at, if_pos rfl], by dsimp only; rw [upd_at, if_neg (by omega), upd_at, if_neg (by omega), upd_at, if_neg (by omega), upd_at, if_neg (by omega)]; exact h1, fun c hc => ?_, fun j hj => ?_⟩
        · dsimp only [vw, vl, vt]
          by_cases e : c = n
          · subst e
            obtain ⟨z1, z2, z3, z4⟩ := hz c (Nat.le_refl c) (by omega)
            refine ⟨?_, ?_, ?_, ?_⟩
            · rw [upd_at, if_neg (by omega), upd_at, if_neg (by omega), upd_at, if_neg (by omega), upd_at, if_pos rfl, upd_at, if_pos rfl]
            · rw [upd_at, if_neg (by omega), upd_at, if_neg (by omega), upd_at, if_pos rfl, z2]
            · rw [upd_at, if_neg (by omega), upd_at, if_pos rfl, z3]
            · show (if c = c then FP.fconst0 else fl c) = fx c
              rw [if_pos rfl, z1]
          · obtain ⟨a1, a2, a3, a4⟩ := hC c (by omega)
            refine ⟨?_, ?_, ?_, ?_⟩
            · rw [upd_at, if_neg (by omega), upd_at, if_neg (by omega), upd_at, if_neg (by omega), upd_at, if_neg (by omega), upd_at, if_neg e]; exact a1
            · rw [upd_at, if_neg (by omega), upd_at, if_neg (by omega), upd_at, if_neg (by omega), upd_at, if_neg (by omega)]; exact a2
            · rw [upd_at, if_neg (by omega), upd_at, if_neg (by omega), upd_at, if_neg (by omega), upd_at, if_neg (by omega)]; exact a3
            · show (if c = n then FP.fconst0 else fl c) = fx c
              rw [if_neg e]; exact a4
        · obtain ⟨a1, a2⟩ := hR j hj
          dsimp only
          refine ⟨by rw [upd_at, if_neg (by omega), upd_at, if_neg (by omega), upd_at, if_neg (by omega), upd_at, if_neg (by omega)]; exact a1, fun i hi => by rw [upd_at, if_neg (by omega), upd_at, if_neg (by omega), upd_at, if_neg (by omega), upd_at, if_neg (by omega)]; exact a2 i hi⟩
      · refine RLg_cong hL hlc ?_ ?_ ?_ (fun j h1 h2 => ?_) <;> (dsimp only; rw [upd_at, if_neg (by omega), upd_at, if_neg (by omega), upd_at, if_neg (by omega), upd_at, if_neg (by omega)])
  · rw [if_neg q, if_neg (fun r => q (rg_iff.mp r))]
    exact Or.inl ⟨rfl, rfl⟩
theorem xor_set (u : Int32) (b : Bool) {y : Nat} (hy : y < 10) (hb : ¬ tb u y = b) : u ^^^ bt y = if b = true then u ||| bt y else u &&& (bt y ^^^ (-1)) := by
  apply tb_ext
  intro c hc
  rw [tb_xor, tb_bt (by omega)]
  cases b with
  | true =>
    rw [if_pos rfl, tb_or, tb_bt (by omega)]
    by_cases e : y = c
    · subst e
      have : tb u y = false := by cases q : tb u y with | true => exact absurd q hb | false => rfl
      rw [this, decide_eq_true rfl]; rfl
    · rw [decide_eq_false e, Bool.or_false, Bool.xor_false]
  | false =>
    rw [if_neg (by decide), tb_and, tb_not _ hc, tb_bt (by omega)]
    by_cases e : y = c
    · subst e
      have : tb u y = true := by cases q : tb u y with | false => exact absurd q hb | true => rfl
      rw [this, decide_eq_true rfl]; rfl
    · rw [decide_eq_false e, Bool.xor_false, Bool.not_false, Bool.and_true]
theorem same_set (u : Int32) (b : Bool) {y : Nat} (hy : y < 10) (hb : tb u y = b) : u = if b = true then u ||| bt y else u &&& (bt y ^^^ (-1)) := by
  apply tb_ext
  intro c hc
  cases b with
  | true =>
    rw [if_pos rfl, tb_or, tb_bt (by omega)]
    by_cases e : y = c
    · subst e; rw [hb]; rfl
    · rw [decide_eq_false e, Bool.or_false]
  | false =>
    rw [if_neg (by decide), tb_and, tb_not _ hc, tb_bt (by omega)]
    by_cases e : y = c
    · subst e; rw [hb]; rfl
    · rw [decide_eq_false e, Bool.not_false, Bool.and_true]
/-- an attack is set -/
theorem rel_direct {n : Nat} {w ly t a : Nat → Int32} {fx : Nat → UInt32} {kd rk lsh lk : Nat → Int32} {lc lx : Nat} {lim sh sc : Int32} {v : Nat → Int32} {fl : Nat → UInt32} (hn : n ≤ 10) (hlc : lc ≤ 16) (h : RC n w ly t fx kd rk lim v fl) (hL : RLg lsh lk lc lx sh sc v) (th x y : Int32) (b : Bool) :
    (opDirect n t a x y b = (-1, t, a) ∧ opSets v n th x y b = (0, 1, v)) ∨
    (inC n x = true ∧ inC n y = true ∧ (opDirect n t a x y b).1 = bI (tb (t x.toNatClampNeg) y.toNatClampNeg) ∧ (opSets v n th x y b).1 = bI (tb (t x.toNatClampNeg) y.toNatClampNeg) ∧ (opSets v n th x y b).2.1 = th ∧ RC n w ly (opDirect n t a x y b).2.1 fx kd rk lim (opSets v n th x y b).2.2 fl ∧ RLg lsh lk lc lx sh sc (opSets v n th x y b).2.2) := by
  unfold opDirect opSets
  by_cases q : inC n x = true ∧ inC n y = true
  · rw [if_pos q, if_pos q]
    refine Or.inr ⟨q.1, q.2, rfl, ?_⟩
    obtain ⟨j, hj, rfl⟩ := inC_of hn q.1
    obtain ⟨j2, hj2, rfl⟩ := inC_of hn q.2
    rw [clN (show j < 2 ^ 31 by omega), clN (show j2 < 2 ^ 31 by omega)]
    obtain ⟨h0, h1, hC, hR⟩ := h
    have et : vt v j = t j := (hC j hj).2.2.1
    refine ⟨by dsimp only; rw [et], rfl, ?_⟩
    dsimp only
    rw [et]
    by_cases e : tb (t j) j2 = b
    · rw [if_pos e]
      refine ⟨⟨h0, h1, fun c hc => ?_, hR⟩, hL⟩
      obtain ⟨a1, a2, a3, a4⟩ := hC c hc
      refine ⟨a1, a2, ?_, a4⟩
      rw [upd_at]
      by_cases e2 : c = j
      · subst e2
        rw [if_pos rfl, a3]
        exact same_set _ b (by omega) e
      · rw [if_neg e2]; exact a3
    · rw [if_neg e]
      refine ⟨⟨by rw [upd_at, if_neg (by omega)]; exact h0, by rw [upd_at, if_neg (by omega)]; exact h1, fun c hc => ?_, fun i hi => ?_⟩, ?_⟩
      · obtain ⟨a1, a2, a3, a4⟩ := hC c hc
        dsimp only [vw, vl, vt] at a1 a2 a3 et ⊢
        refine ⟨by rw [upd_at, if_neg (by omega)]; exact a1, by rw [upd_at, if_neg (by omega)]; exact a2, ?_, a4⟩
        by_cases e2 : c = j
        · subst e2
          rw [upd_at, if_pos rfl, upd_at, if_pos rfl, a3]
          exact xor_set _ b (by omega) e
        · rw [upd_at, if_neg (by omega), upd_at, if_neg e2]; exact a3
      · obtain ⟨a1, a2⟩ := hR i hi
        exact ⟨by rw [upd_at, if_neg (by omega)]; exact a1, fun i2 hi2 => by rw [upd_at, if_neg (by omega)]; exact a2 i2 hi2⟩
      · refine RLg_cong hL hlc ?_ ?_ ?_ (fun i h1 h2 => ?_) <;> rw [upd_at, if_neg (by omega)]
  · rw [if_neg q, if_neg q]
    exact Or.inl ⟨rfl, rfl⟩
/-- a claim moves -/
theorem rel_move {n : Nat} {w ly t : Nat → Int32} {fx : Nat → UInt32} {kd rk lsh lk : Nat → Int32} {lc lx : Nat} {lim sh sc : Int32} {v : Nat → Int32} {fl : Nat → UInt32} (hn : n ≤ 10) (hlc : lc ≤ 16) (h : RC n w ly t fx kd rk lim v fl) (hL : RLg lsh lk lc lx sh sc v) (th x y : Int32) :
    (opMove n ly x y = (-1, ly) ∧ opMoves v n th x y = (0, 1, v)) ∨
    (inC n x = true ∧ (opMove n ly x y).1 = ly x.toNatClampNeg ∧ (opMoves v n th x y).1 = ly x.toNatClampNeg ∧ (opMoves v n th x y).2.1 = th ∧ RC n w (opMove n ly x y).2 t fx kd rk lim (opMoves v n th x y).2.2 fl ∧ RLg lsh lk lc lx sh sc (opMoves v n th x y).2.2) := by
  unfold opMove opMoves
  by_cases q : inC n x = true ∧ rg 0 y 3 = true
  · rw [if_pos q, if_pos q]
    refine Or.inr ⟨q.1, rfl, ?_⟩
    obtain ⟨j, hj, rfl⟩ := inC_of hn q.1
    obtain ⟨j2, hj2, rfl⟩ := rg_of (m := 3) (by decide) q.2
    rw [clN (show j < 2 ^ 31 by omega)]
    obtain ⟨h0, h1, hC, hR⟩ := h
    refine ⟨(hC j hj).2.1, rfl, ⟨by dsimp only; rw [upd_at, if_neg (by omega)]; exact h0, by dsimp only; rw [upd_at, if_neg (by omega)]; exact h1, fun c hc => ?_, fun i hi => ?_⟩, ?_⟩
    · obtain ⟨a1, a2, a3, a4⟩ := hC c hc
      dsimp only [vw, vl, vt] at a1 a2 a3 ⊢
      refine ⟨by rw [upd_at, if_neg (by omega)]; exact a1, ?_, by rw [upd_at, if_neg (by omega)]; exact a3, a4⟩
      by_cases e2 : c = j
      · subst e2
        rw [upd_at, if_pos rfl, upd_at, if_pos rfl]
      · rw [upd_at, if_neg (by omega), upd_at, if_neg e2]; exact a2
    · obtain ⟨a1, a2⟩ := hR i hi
      exact ⟨by dsimp only; rw [upd_at, if_neg (by omega)]; exact a1, fun i2 hi2 => by dsimp only; rw [upd_at, if_neg (by omega)]; exact a2 i2 hi2⟩
    · refine RLg_cong hL hlc ?_ ?_ ?_ (fun i h1 h2 => ?_) <;> (dsimp only; rw [upd_at, if_neg (by omega)])
  · rw [if_neg q, if_neg q]
    exact Or.inl ⟨rfl, rfl⟩
theorem stM_stg (x : Int32) : stM (rmM x) = stg x := by
  unfold stM rmM stg
  by_cases e : x = 46
  · subst e; rfl
  · rw [if_neg e]
    by_cases e1 : x = 113
    · subst e1; rfl
    · rw [if_neg e1]
      by_cases e2 : x = 111
      · rw [if_pos e2, if_pos e2]
      · rw [if_neg e2, if_neg e2, if_neg e1]
theorem dp_eq {n : Nat} {w ly t : Nat → Int32} {fx : Nat → UInt32} {kd rk : Nat → Int32} {lim : Int32} {v : Nat → Int32} {fl : Nat → UInt32} (h : RC n w ly t fx kd rk lim v fl) {j : Nat} (hj : j < 4) : dpM v j = dpS rk j := by
  obtain ⟨-, a2⟩ := h.2.2.2 j hj
  have e : ∀ i, i < 3 → stM (rkS v j (i + 1)) = stg (rk (j * 3 + i)) := fun i hi => by
    show stM (v (35 + 4 * j + (i + 1))) = _
    rw [a2 i hi]; exact stM_stg _
  show ((0 + stM (rkS v j (0 + 1))) + stM (rkS v j (1 + 1))) + stM (rkS v j (2 + 1)) = ((0 + stg (rk (j * 3 + 0))) + stg (rk (j * 3 + 1))) + stg (rk (j * 3 + 2))
  rw [e 0 (by omega), e 1 (by omega), e 2 (by omega)]
theorem ch_eq {n : Nat} {w ly t : Nat → Int32} {fx : Nat → UInt32} {kd rk : Nat → Int32} {lim : Int32} {v : Nat → Int32} {fl : Nat → UInt32} (h : RC n w ly t fx kd rk lim v fl) {j : Nat} (hj : j < 4) (z : Int32) : chM v j z = chd kd j z := by
  unfold chM chd
  rw [show rkS v j 0 = kd j from (h.2.2.2 j hj).1]
/-- a rack anew -/
theorem rel_renew {n : Nat} {w ly t : Nat → Int32} {fx : Nat → UInt32} {kd rk lsh lk : Nat → Int32} {lc lx : Nat} {lim sh sc : Int32} {v : Nat → Int32} {fl : Nat → UInt32} (hn : n ≤ 10) (hlc : lc ≤ 16) (h : RC n w ly t fx kd rk lim v fl) (hL : RLg lsh lk lc lx sh sc v) (th x z : Int32) :
    (opRenew kd rk x z = (-1, kd) ∧ opRacks v th x z = (0, 1, v)) ∨ (opRenew kd rk x z = (-2, kd) ∧ opRacks v th x z = (0, 2, v)) ∨ (opRenew kd rk x z = (-3, kd) ∧ opRacks v th x z = (0, 3, v)) ∨
    (rg 0 x 3 = true ∧ (opRenew kd rk x z).1 = kd x.toNatClampNeg ∧ (opRacks v th x z).1 = kd x.toNatClampNeg ∧ (opRacks v th x z).2.1 = th ∧ RC n w ly t fx (opRenew kd rk x z).2 rk lim (opRacks v th x z).2.2 fl ∧ RLg lsh lk lc lx sh sc (opRacks v th x z).2.2) := by
  unfold opRenew opRacks
  by_cases q : rg 0 x 3 = true
  · rw [if_pos q, if_pos q]
    by_cases q2 : z = 113 ∨ z = 111 ∨ z = 97
    · rw [if_pos q2, if_pos q2]
      obtain ⟨j, hj, rfl⟩ := rg_of (m := 3) (by decide) q
      rw [clN (show j < 2 ^ 31 by omega), dp_eq h (show j < 4 by omega)]
      by_cases q3 : dpS rk j ≤ 0
      · rw [if_pos q3, if_pos q3]
        refine Or.inr (Or.inr (Or.inr ⟨q, rfl, ?_⟩))
        obtain ⟨h0, h1, hC, hR⟩ := h
        refine ⟨(hR j (by omega)).1, rfl, ⟨by dsimp only; rw [upd_at, if_neg (by omega)]; exact h0, by dsimp only; rw [upd_at, if_neg (by omega)]; exact h1, fun c hc => ?_, fun i hi => ?_⟩, ?_⟩
        · obtain ⟨a1, a2, a3, a4⟩ := hC c hc
          dsimp only [vw, vl, vt] at a1 a2 a3 ⊢
          exact ⟨by rw [upd_at, if_neg (by omega)]; exact a1, by rw [upd_at, if_neg (by omega)]; exact a2, by rw [upd_at, if_neg (by omega)]; exact a3, a4⟩
        · obtain ⟨a1, a2⟩ := hR i hi
          dsimp only
          refine ⟨?_, fun i2 hi2 => by rw [upd_at, if_neg (by omega)]; exact a2 i2 hi2⟩
          by_cases e2 : i = j
          · subst e2
            rw [upd_at, if_pos (by omega), upd_at, if_pos rfl]
          · rw [upd_at, if_neg (by omega), upd_at, if_neg e2]; exact a1
        · refine RLg_cong hL hlc ?_ ?_ ?_ (fun i h1 h2 => ?_) <;> (dsimp only; rw [upd_at, if_neg (by omega)])
      · rw [if_neg q3, if_neg q3]
        exact Or.inr (Or.inr (Or.inl ⟨rfl, rfl⟩))
    · rw [if_neg q2, if_neg q2]
      exact Or.inr (Or.inl ⟨rfl, rfl⟩)
  · rw [if_neg q, if_neg q]
    exact Or.inl ⟨rfl, rfl⟩
theorem rmM0 {x : Int32} (h : x = 46 ∨ x = 113 ∨ x = 111) : rmM x = 0 ↔ x = 46 := by
  rcases h with e | e | e <;> subst e <;> decide
theorem RC_rm {n : Nat} {w ly t : Nat → Int32} {fx : Nat → UInt32} {kd rk : Nat → Int32} {lim : Int32} {v : Nat → Int32} {fl : Nat → UInt32} (hn : n ≤ 10) (h : RC n w ly t fx kd rk lim v fl) {j i : Nat} (hj : j < 4) (hi : i < 3) (z : Int32) : RC n w ly t fx kd (upd rk (j * 3 + i) z) lim (upd v (35 + 4 * j + (i + 1)) (rmM z)) fl := by
  obtain ⟨h0, h1, hC, hR⟩ := h
  refine ⟨by rw [upd_at, if_neg (by omega)]; exact h0, by rw [upd_at, if_neg (by omega)]; exact h1, fun c hc => ?_, fun j2 hj2 => ?_⟩
  · obtain ⟨a1, a2, a3, a4⟩ := hC c hc
    dsimp only [vw, vl, vt] at a1 a2 a3 ⊢
    exact ⟨by rw [upd_at, if_neg (by omega)]; exact a1, by rw [upd_at, if_neg (by omega)]; exact a2, by rw [upd_at, if_neg (by omega)]; exact a3, a4⟩
  · obtain ⟨a1, a2⟩ := hR j2 hj2
    refine ⟨by rw [upd_at, if_neg (by omega)]; exact a1, fun i2 hi2 => ?_⟩
    by_cases e : j2 = j ∧ i2 = i
    · obtain ⟨e1, e2⟩ := e
      subst e1; subst e2
      rw [upd_at, if_pos rfl, upd_at, if_pos rfl]
    · rw [upd_at, if_neg (by omega), upd_at, if_neg (by omega)]
      exact a2 i2 hi2
/-- a remark is put in -/
theorem rel_put {n : Nat} {w ly t : Nat → Int32} {fx : Nat → UInt32} {kd rk lsh lk : Nat → Int32} {lc lx : Nat} {lim sh sc : Int32} {v : Nat → Int32} {fl : Nat → UInt32} (hn : n ≤ 10) (hlc : lc ≤ 16) (hlx : lx < 16) (hrk : ∀ j, j < 12 → rk j = 46 ∨ rk j = 113 ∨ rk j = 111) (h : RC n w ly t fx kd rk lim v fl) (hL : RLg lsh lk lc lx sh sc v) (th x y z : Int32) :
    (opPut kd rk x y z = (-1, rk) ∧ opIns v lc th x y z = (0, 1, v)) ∨ (opPut kd rk x y z = (-2, rk) ∧ opIns v lc th x y z = (0, 2, v)) ∨ (opPut kd rk x y z = (-3, rk) ∧ opIns v lc th x y z = (0, 3, v)) ∨ (opPut kd rk x y z = (-4, rk) ∧ opIns v lc th x y z = (0, 4, v)) ∨
    (¬ (opPut kd rk x y z).1 < 0 ∧ (opIns v lc th x y z).1 = (opPut kd rk x y z).1 ∧ (opIns v lc th x y z).2.1 = th ∧ RC n w ly t fx kd (opPut kd rk x y z).2 lim (opIns v lc th x y z).2.2 fl ∧ RLg (upd lsh lx sh) (upd lk lx 105) (min (lc + 1) 16) ((lx + 1) % 16) sh sc (opIns v lc th x y z).2.2) := by
  unfold opPut opIns
  by_cases q : rg 0 x 3 = true ∧ rg 0 y 2 = true
  · rw [if_pos q, if_pos q]
    by_cases q2 : z = 113 ∨ z = 111
    · rw [if_pos q2, if_pos q2]
      obtain ⟨j, hj, rfl⟩ := rg_of (m := 3) (by decide) q.1
      obtain ⟨i, hi, rfl⟩ := rg_of (m := 2) (by decide) q.2
      rw [clN (show j < 2 ^ 31 by omega), clN (show i < 2 ^ 31 by omega), (h.2.2.2 j (by omega)).2 i (by omega), ch_eq h (show j < 4 by omega)]
      have e0 := rmM0 (hrk (j * 3 + i) (by omega))
      by_cases q3 : rk (j * 3 + i) = 46
      · rw [if_pos q3, if_pos (e0.mpr q3)]
        by_cases q4 : chd kd j z = true
        · rw [if_pos q4, if_pos q4]
          have hz : rmM z = z := by
            unfold rmM
            rw [if_neg (by rcases q2 with e | e <;> subst e <;> decide)]
          have h' := RC_rm hn h (show j < 4 by omega) (show i < 3 by omega) z
          rw [hz] at h'
          have hL' : RLg lsh lk lc lx sh sc (upd v (35 + 4 * j + (i + 1)) z) := by
            refine RLg_cong hL hlc ?_ ?_ ?_ (fun i h1 h2 => ?_) <;> rw [upd_at, if_neg (by omega)]
          have h2 := RC_lg h' hn hlc 105
          refine Or.inr (Or.inr (Or.inr (Or.inr ⟨?_, dp_eq h2 (by omega), rfl, h2, RLg_lg hL' hlc hlx 105⟩)))
          dsimp only
          obtain ⟨d, hd, e⟩ := dpS_nI (upd rk (j * 3 + i) z) j
          rw [e]
          exact nI_pos (by omega)
        · rw [if_neg q4, if_neg q4]
          exact Or.inr (Or.inr (Or.inr (Or.inl ⟨rfl, rfl⟩)))
      · rw [if_neg q3, if_neg (fun r => q3 (e0.mp r))]
        exact Or.inr (Or.inr (Or.inl ⟨rfl, rfl⟩))
    · rw [if_neg q2, if_neg q2]
      exact Or.inr (Or.inl ⟨rfl, rfl⟩)
  · rw [if_neg q, if_neg q]
    exact Or.inl ⟨rfl, rfl⟩
/-- a remark is taken out -/
theorem rel_take {n : Nat} {w ly t : Nat → Int32} {fx : Nat → UInt32} {kd rk lsh lk : Nat → Int32} {lc lx : Nat} {lim sh sc : Int32} {v : Nat → Int32} {fl : Nat → UInt32} (hn : n ≤ 10) (hlc : lc ≤ 16) (hlx : lx < 16) (hrk : ∀ j, j < 12 → rk j = 46 ∨ rk j = 113 ∨ rk j = 111) (h : RC n w ly t fx kd rk lim v fl) (hL : RLg lsh lk lc lx sh sc v) (th x y : Int32) :
    (opTake rk x y = (-1, rk) ∧ opDrw v lc th x y = (0, 1, v)) ∨ (opTake rk x y = (-5, rk) ∧ opDrw v lc th x y = (0, 2, v)) ∨
    (((opTake rk x y).1 = 113 ∨ (opTake rk x y).1 = 111) ∧ (opDrw v lc th x y).1 = (opTake rk x y).1 ∧ (opDrw v lc th x y).2.1 = th ∧ RC n w ly t fx kd (opTake rk x y).2 lim (opDrw v lc th x y).2.2 fl ∧ RLg (upd lsh lx sh) (upd lk lx 119) (min (lc + 1) 16) ((lx + 1) % 16) sh sc (opDrw v lc th x y).2.2) := by
  unfold opTake opDrw
  by_cases q : rg 0 x 3 = true ∧ rg 0 y 2 = true
  · rw [if_pos q, if_pos q]
    obtain ⟨j, hj, rfl⟩ := rg_of (m := 3) (by decide) q.1
    obtain ⟨i, hi, rfl⟩ := rg_of (m := 2) (by decide) q.2
    rw [clN (show j < 2 ^ 31 by omega), clN (show i < 2 ^ 31 by omega), (h.2.2.2 j (by omega)).2 i (by omega)]
    have hr := hrk (j * 3 + i) (by omega)
    have e0 := rmM0 hr
    by_cases q3 : rk (j * 3 + i) = 46
    · rw [if_pos q3, if_pos (e0.mpr q3)]
      exact Or.inr (Or.inl ⟨rfl, rfl⟩)
    · rw [if_neg q3, if_neg (fun r => q3 (e0.mp r))]
      have h' := RC_rm hn h (show j < 4 by omega) (show i < 3 by omega) 46
      rw [show rmM 46 = 0 from rfl] at h'
      have hL' : RLg lsh lk lc lx sh sc (upd v (35 + 4 * j + (i + 1)) 0) := by
        refine RLg_cong hL hlc ?_ ?_ ?_ (fun i h1 h2 => ?_) <;> rw [upd_at, if_neg (by omega)]
      refine Or.inr (Or.inr ⟨hr.resolve_left q3, ?_, rfl, RC_lg h' hn hlc 119, RLg_lg hL' hlc hlx 119⟩)
      dsimp only
      unfold rmM
      rw [if_neg q3]
  · rw [if_neg q, if_neg q]
    exact Or.inl ⟨rfl, rfl⟩
/-- a claim is excited -/
theorem rel_heat {n : Nat} {w ly t : Nat → Int32} {fx : Nat → UInt32} {kd rk lsh lk : Nat → Int32} {lc lx : Nat} {lim sh sc : Int32} {v : Nat → Int32} {fl : Nat → UInt32} (hn : n ≤ 10) (hlc : lc ≤ 16) (hlx : lx < 16) (h : RC n w ly t fx kd rk lim v fl) (hL : RLg lsh lk lc lx sh sc v) (th x y : Int32) :
    (opHeat n fx x y = (-1, fx) ∧ hOk n x y = false ∧ opExc v fl n lc th x y = (0, 1, v, fl)) ∨ (opHeat n fx x y = (-2, fx) ∧ hOk n x y = false ∧ opExc v fl n lc th x y = (0, 2, v, fl)) ∨
    (inC n x = true ∧ hOk n x y = true ∧ (opHeat n fx x y).1 = x ∧ (opExc v fl n lc th x y).1 = 1 ∧ (opExc v fl n lc th x y).2.1 = th ∧ (opExc v fl n lc th x y).2.2.2 x.toNatClampNeg = (opHeat n fx x y).2 x.toNatClampNeg ∧ RC n w ly t (opHeat n fx x y).2 kd rk lim (opExc v fl n lc th x y).2.2.1 (opExc v fl n lc th x y).2.2.2 ∧ RLg (upd lsh lx sh) (upd lk lx 101) (min (lc + 1) 16) ((lx + 1) % 16) sh sc (opExc v fl n lc th x y).2.2.1) := by
  unfold opHeat opExc hOk
  by_cases q : inC n x = true
  · rw [if_pos q, if_pos q, if_pos q]
    by_cases q1 : y < 1
    · rw [if_pos q1, if_pos q1, if_neg (fun r => absurd (rg_iff.mp r).1 (Int32.not_le.mpr q1))]
      exact Or.inr (Or.inl ⟨rfl, rfl, rfl⟩)
    · rw [if_neg q1, if_neg q1]
      by_cases q2 : y ≤ 1000
      · rw [if_pos q2, if_pos q2, if_pos (rg_iff.mpr ⟨Int32.not_lt.mp q1, q2⟩)]
        obtain ⟨j, hj, rfl⟩ := inC_of hn q
        rw [clN (show j < 2 ^ 31 by omega)]
        have ef : fl j = fx j := (h.2.2.1 j hj).2.2.2
        have hR : RC n w ly t (vf_upd fx j (cpF (FP.fadd (fx j) (FP.i2f y)))) kd rk lim v (vf_upd fl j (cpF (FP.fadd (fl j) (FP.i2f y)))) := by
          obtain ⟨h0, h1, hC, hR⟩ := h
          refine ⟨h0, h1, fun c hc => ?_, hR⟩
          obtain ⟨a1, a2, a3, a4⟩ := hC c hc
          refine ⟨a1, a2, a3, ?_⟩
          unfold vf_upd
          rw [ef, a4]
        refine Or.inr (Or.inr ⟨q, rfl, rfl, rfl, rfl, ?_, RC_lg hR hn hlc 101, RLg_lg hL hlc hlx 101⟩)
        dsimp only
        unfold vf_upd
        rw [if_pos rfl, if_pos rfl, ef]
      · rw [if_neg q2, if_neg q2, if_neg (fun r => q2 (rg_iff.mp r).2)]
        exact Or.inr (Or.inl ⟨rfl, rfl, rfl⟩)
  · rw [if_neg q, if_neg q, if_neg q]
    exact Or.inl ⟨rfl, rfl, rfl⟩
/-- a limit is set -/
theorem rel_limit {n : Nat} {w ly t : Nat → Int32} {fx : Nat → UInt32} {kd rk lsh lk : Nat → Int32} {lc lx : Nat} {lim sh sc : Int32} {v : Nat → Int32} {fl : Nat → UInt32} (hn : n ≤ 10) (hlc : lc ≤ 16) (h : RC n w ly t fx kd rk lim v fl) (hL : RLg lsh lk lc lx sh sc v) (th x : Int32) :
    (¬ (1 ≤ x ∧ x ≤ 9999) ∧ opLimits v th x = (0, 1, v)) ∨
    ((1 ≤ x ∧ x ≤ 9999) ∧ (opLimits v th x).1 = lim ∧ (opLimits v th x).2.1 = th ∧ RC n w ly t fx kd rk x (opLimits v th x).2.2 fl ∧ RLg lsh lk lc lx sh sc (opLimits v th x).2.2) := by
  unfold opLimits
  by_cases q : 1 ≤ x ∧ x ≤ 9999
  · rw [if_pos (rg_iff.mpr q)]
    refine Or.inr ⟨q, h.2.1, rfl, ?_, ?_⟩
    · obtain ⟨h0, h1, hC, hR⟩ := h
      refine ⟨by dsimp only; rw [upd_at, if_neg (by omega)]; exact h0, by dsimp only; rw [upd_at, if_pos rfl], fun c hc => ?_, fun j hj => ?_⟩
      · obtain ⟨a1, a2, a3, a4⟩ := hC c hc
        dsimp only [vw, vl, vt] at a1 a2 a3 ⊢
        exact ⟨by rw [upd_at, if_neg (by omega)]; exact a1, by rw [upd_at, if_neg (by omega)]; exact a2, by rw [upd_at, if_neg (by omega)]; exact a3, a4⟩
      · obtain ⟨a1, a2⟩ := hR j hj
        dsimp only
        exact ⟨by rw [upd_at, if_neg (by omega)]; exact a1, fun i hi => by rw [upd_at, if_neg (by omega)]; exact a2 i hi⟩
    · refine RLg_cong hL hlc ?_ ?_ ?_ (fun i h1 h2 => ?_) <;> (dsimp only; rw [upd_at, if_neg (by omega)])
  · rw [if_neg (fun r => q (rg_iff.mp r))]
    exact Or.inl ⟨q, rfl⟩
