/-! The two sides run a command text alike. -/
section RUN
variable {ts tx : Nat → Int32} {tl : Nat}
theorem ch7 {q : Nat} (h : q < 128) : chC (nI q) = nI q := by
  have : ∀ q : Nat, q < 128 → chC (nI q) = nI q := by decide +kernel
  exact this q h
theorem ch_sgn (hg : ∀ p, sgn ts tl p = sgn tx tl p) (ho : tsOk ts tl) {p : Nat} (hp : p < tl) : chC (sgn tx tl p) = sgn tx tl p := by
  obtain ⟨q, hq, e⟩ := ho p hp
  rw [← hg, sgn_ts hp, e]
  exact ch7 hq
/-- the letters of a command are letters -/
theorem cmd_ch (hg : ∀ p, sgn ts tl p = sgn tx tl p) (ho : tsOk ts tl) {st : Nat} (h : (cmP tx tl st).2.1 = false) : ((cmP tx tl st).2.2.1 = 4 → chC (cmP tx tl st).2.2.2.2.1 = (cmP tx tl st).2.2.2.2.1) ∧ ((cmP tx tl st).2.2.1 = 5 → chC (cmP tx tl st).2.2.2.2.2 = (cmP tx tl st).2.2.2.2.2) := by
  cases q : (wdS tx tl st).2.1 with
  | true => rw [cmP_e rfl q] at h; cases h
  | false =>
    have q2 := q
    rw [← wdS_eq] at q2
    obtain ⟨w, hw, e1, e2, e3⟩ := wd_yes hg st q2
    rw [wdS_eq] at e1 e3
    rw [cmP_w e3 q e1 hw] at h ⊢
    have h : (cpE tx tl (st + wdL w) w).2.2.2 = false := h
    try dsimp only
    generalize st + wdL w = z at h ⊢
    constructor
    · intro e
      subst e
      revert h
      simp only [cpE]
      split
      · intro h; cases h
      · intro h
        exact ch_sgn hg ho (ltW_of (show ltW tx tl (z + dkE tx tl z false 1) false true = false from h))
    · intro e
      subst e
      revert h
      simp only [cpE]
      split
      · intro h; cases h
      · split
        · intro h; cases h
        · intro h
          exact ch_sgn hg ho (ltW_of (show ltW tx tl (z + dkE tx tl z false 1 + dkE tx tl (z + dkE tx tl z false 1) false 1) false false = false from h))
/-- what stands ahead of the command m -/
theorem run_st (hg : ∀ p, sgn ts tl p = sgn tx tl p) (ho : tsOk ts tl) {N : Nat} (hgd : ∀ c, c < N → gdC tx tl c) (hN : (cmP tx tl (stC tx tl N)).2.1 = false) (kf : Nat → Nat) (V : Nat → Nat → Int32) (vc sp : Nat) (fs : Nat → Option Nat) {W : Nat → Nat → Int32} (hW : W = (psU ts tl kf (0, V, vc, sp, fs) (N + 1)).2.1)
    {S : SC} {v : Nat → Int32} {fl : Nat → UInt32} (hS : okC S) (h : RelS S v fl) (hlim : ¬ limS S < 0) (nx : Nat → UInt32) (m : Nat) (hm : m ≤ N) (hal : ∀ c, c < m → ¬ ruA (pfF ts tl kf (0, V, vc, sp, fs)) W S c < 0) :
    ∃ (v' : Nat → Int32) (fl' nx' : Nat → UInt32), cqU tx tl true 0 v fl nx m = cqC tx tl true (stC tx tl m) 0 v' fl' nx' ∧ RelS (ruU (pfF ts tl kf (0, V, vc, sp, fs)) W S m) v' fl' ∧ ¬ limS (ruU (pfF ts tl kf (0, V, vc, sp, fs)) W S m) < 0 ∧ (∀ c, c < m → cqG tl (cqU tx tl true 0 v fl nx c) = true)
      ∧ CoR (coS (pfF ts tl kf (0, V, vc, sp, fs) m) (W m 0) (W m 1) (W m 2) (ruU (pfF ts tl kf (0, V, vc, sp, fs)) W S m)) (doV v' fl' nx' 0 (cmP tx tl (stC tx tl m)).2.2.1 (cmP tx tl (stC tx tl m)).2.2.2.1 (cmP tx tl (stC tx tl m)).2.2.2.2.1 (cmP tx tl (stC tx tl m)).2.2.2.2.2) := by
  have hok : ∀ c, c ≤ N → (cmP tx tl (stC tx tl c)).2.1 = false := fun c hc => by
    rcases Nat.lt_or_ge c N with q | q
    · exact (hgd c q).1
    · rw [show c = N by omega]; exact hN
  have step : ∀ m, m ≤ N → ∀ (v' : Nat → Int32) (fl' nx' : Nat → UInt32), RelS (ruU (pfF ts tl kf (0, V, vc, sp, fs)) W S m) v' fl' → ¬ limS (ruU (pfF ts tl kf (0, V, vc, sp, fs)) W S m) < 0 → CoR (coS (pfF ts tl kf (0, V, vc, sp, fs) m) (W m 0) (W m 1) (W m 2) (ruU (pfF ts tl kf (0, V, vc, sp, fs)) W S m)) (doV v' fl' nx' 0 (cmP tx tl (stC tx tl m)).2.2.1 (cmP tx tl (stC tx tl m)).2.2.2.1 (cmP tx tl (stC tx tl m)).2.2.2.2.1 (cmP tx tl (stC tx tl m)).2.2.2.2.2) := by
    intro m hm v' fl' nx' hr hl
    obtain ⟨f1, f2, f3⟩ := ps_val hg ho kf V vc sp fs (i := N + 1) (fun d hd => hgd d (by omega)) (hok m hm) (by omega)
    rw [← hW] at f3
    obtain ⟨c1, c2⟩ := cmd_ch hg ho (hok m hm)
    rw [f1]
    obtain ⟨g1, g2, g3⟩ := f3
    rw [g1]
    exact rel_co (okC_ru _ _ hS m) hr hl nx' f2 g2 g3 c1 c2
  induction m with
  | zero => exact ⟨v, fl, nx, rfl, h, hlim, fun c hc => absurd hc (Nat.not_lt_zero c), step 0 hm v fl nx h hlim⟩
  | succ m ih =>
    obtain ⟨v', fl', nx', e1, e2, e3, e4, e5⟩ := ih (by omega) (fun c hc => hal c (by omega))
    have hno := hal m (Nat.lt_succ_self m)
    obtain ⟨a, b, c⟩ := hgd m (by omega)
    rcases e5 with ⟨q, -⟩ | ⟨-, q, r1, r2⟩
    · exact absurd q hno
    · have ex : cmX tx tl (stC tx tl m) true 0 v' fl' nx' = (doV v' fl' nx' 0 (cmP tx tl (stC tx tl m)).2.2.1 (cmP tx tl (stC tx tl m)).2.2.2.1 (cmP tx tl (stC tx tl m)).2.2.2.2.1 (cmP tx tl (stC tx tl m)).2.2.2.2.2).2 := by
        unfold cmX
        rw [if_neg]
        rintro (z | z)
        · rw [a] at z; cases z
        · cases z
      refine ⟨(doV v' fl' nx' 0 (cmP tx tl (stC tx tl m)).2.2.1 (cmP tx tl (stC tx tl m)).2.2.2.1 (cmP tx tl (stC tx tl m)).2.2.2.2.1 (cmP tx tl (stC tx tl m)).2.2.2.2.2).2.2.1, (doV v' fl' nx' 0 (cmP tx tl (stC tx tl m)).2.2.1 (cmP tx tl (stC tx tl m)).2.2.2.1 (cmP tx tl (stC tx tl m)).2.2.2.2.1 (cmP tx tl (stC tx tl m)).2.2.2.2.2).2.2.2.1, (doV v' fl' nx' 0 (cmP tx tl (stC tx tl m)).2.2.1 (cmP tx tl (stC tx tl m)).2.2.2.1 (cmP tx tl (stC tx tl m)).2.2.2.2.1 (cmP tx tl (stC tx tl m)).2.2.2.2.2).2.2.2.2, ?_, r1, r2, ?_, step (m + 1) hm _ _ _ r1 r2⟩
      · rw [cqU_s, e1]
        unfold cqT
        rw [if_pos (show sgn tx tl (cqC tx tl true (stC tx tl m) 0 v' fl' nx').1 = 59 from c)]
        show cqC tx tl true ((cmP tx tl (stC tx tl m)).1 + 1) (cmX tx tl (stC tx tl m) true 0 v' fl' nx').1 (cmX tx tl (stC tx tl m) true 0 v' fl' nx').2.1 (cmX tx tl (stC tx tl m) true 0 v' fl' nx').2.2.1 (cmX tx tl (stC tx tl m) true 0 v' fl' nx').2.2.2 = _
        rw [ex, q]
        rfl
      · intro d hd
        rcases Nat.lt_succ_iff_lt_or_eq.mp hd with z | z
        · exact e4 d z
        · rw [z, e1]
          exact cqG_t a (show (cmX tx tl (stC tx tl m) true 0 v' fl' nx').1 = 0 by rw [ex]; exact q) b
/-- the run to its end -/
theorem run_ok (hg : ∀ p, sgn ts tl p = sgn tx tl p) (ho : tsOk ts tl) {N : Nat} (hN8 : N ≤ 8) (hgd : ∀ c, c < N → gdC tx tl c) (hN : (cmP tx tl (stC tx tl N)).2.1 = false) (hend : ¬ (cmP tx tl (stC tx tl N)).1 < tl) (kf : Nat → Nat) (V : Nat → Nat → Int32) (vc sp : Nat) (fs : Nat → Option Nat) {W : Nat → Nat → Int32} (hW : W = (psU ts tl kf (0, V, vc, sp, fs) (N + 1)).2.1)
    {S : SC} {v : Nat → Int32} {fl : Nat → UInt32} (hS : okC S) (h : RelS S v fl) (hlim : ¬ limS S < 0) (nx : Nat → UInt32) (hal : ∀ c, c < N + 1 → ¬ ruA (pfF ts tl kf (0, V, vc, sp, fs)) W S c < 0) :
    cqN tx tl true 0 v fl nx = N ∧ (cqE tx tl true 0 v fl nx).2.2.1 = 0 ∧ RelS (ruU (pfF ts tl kf (0, V, vc, sp, fs)) W S (N + 1)) (cqE tx tl true 0 v fl nx).2.2.2.1 (cqE tx tl true 0 v fl nx).2.2.2.2.1 ∧ ¬ limS (ruU (pfF ts tl kf (0, V, vc, sp, fs)) W S (N + 1)) < 0 := by
  obtain ⟨v', fl', nx', e1, e2, e3, e4, e5⟩ := run_st hg ho hgd hN kf V vc sp fs hW hS h hlim nx N (Nat.le_refl N) (fun c hc => hal c (by omega))
  have eN : cqN tx tl true 0 v fl nx = N := cqN_at e4 (by rw [e1]; exact cqG_f3 hend) (by omega)
  have ex : cmX tx tl (stC tx tl N) true 0 v' fl' nx' = (doV v' fl' nx' 0 (cmP tx tl (stC tx tl N)).2.2.1 (cmP tx tl (stC tx tl N)).2.2.2.1 (cmP tx tl (stC tx tl N)).2.2.2.2.1 (cmP tx tl (stC tx tl N)).2.2.2.2.2).2 := by
    unfold cmX
    rw [if_neg]
    rintro (z | z)
    · rw [hN] at z; cases z
    · cases z
  rcases e5 with ⟨q, -⟩ | ⟨-, q, r1, r2⟩
  · exact absurd q (hal N (Nat.lt_succ_self N))
  · refine ⟨eN, ?_, ?_, r2⟩
    · unfold cqE
      rw [eN, e1]
      show (cmX tx tl (stC tx tl N) true 0 v' fl' nx').1 = 0
      rw [ex]; exact q
    · unfold cqE
      rw [eN, e1]
      show RelS _ (cmX tx tl (stC tx tl N) true 0 v' fl' nx').2.1 (cmX tx tl (stC tx tl N) true 0 v' fl' nx').2.2.1
      rw [ex]; exact r1
/-- the run that fails at the command j -/
theorem run_no (hg : ∀ p, sgn ts tl p = sgn tx tl p) (ho : tsOk ts tl) {N : Nat} (hN8 : N ≤ 8) (hgd : ∀ c, c < N → gdC tx tl c) (hN : (cmP tx tl (stC tx tl N)).2.1 = false) (kf : Nat → Nat) (V : Nat → Nat → Int32) (vc sp : Nat) (fs : Nat → Option Nat) {W : Nat → Nat → Int32} (hW : W = (psU ts tl kf (0, V, vc, sp, fs) (N + 1)).2.1)
    {S : SC} {v : Nat → Int32} {fl : Nat → UInt32} (hS : okC S) (h : RelS S v fl) (hlim : ¬ limS S < 0) (nx : Nat → UInt32) {j : Nat} (hj : j ≤ N) (hal : ∀ c, c < j → ¬ ruA (pfF ts tl kf (0, V, vc, sp, fs)) W S c < 0) (hjf : ruA (pfF ts tl kf (0, V, vc, sp, fs)) W S j < 0) :
    cqN tx tl true 0 v fl nx = j ∧ ¬ (cqE tx tl true 0 v fl nx).2.2.1 = 0 := by
  obtain ⟨v', fl', nx', e1, e2, e3, e4, e5⟩ := run_st hg ho hgd hN kf V vc sp fs hW hS h hlim nx j hj hal
  have hok : (cmP tx tl (stC tx tl j)).2.1 = false := by
    rcases Nat.lt_or_ge j N with q | q
    · exact (hgd j q).1
    · rw [show j = N by omega]; exact hN
  have ex : cmX tx tl (stC tx tl j) true 0 v' fl' nx' = (doV v' fl' nx' 0 (cmP tx tl (stC tx tl j)).2.2.1 (cmP tx tl (stC tx tl j)).2.2.2.1 (cmP tx tl (stC tx tl j)).2.2.2.2.1 (cmP tx tl (stC tx tl j)).2.2.2.2.2).2 := by
    unfold cmX
    rw [if_neg]
    rintro (z | z)
    · rw [hok] at z; cases z
    · cases z
  rcases e5 with ⟨-, q⟩ | ⟨q, -⟩
  · have hth : ¬ (cqC tx tl true (stC tx tl j) 0 v' fl' nx').2.2.1 = 0 := by
      show ¬ (cmX tx tl (stC tx tl j) true 0 v' fl' nx').1 = 0
      rw [ex]; exact q
    have eN : cqN tx tl true 0 v fl nx = j := cqN_at e4 (by rw [e1]; exact cqG_f2 hth) (by omega)
    refine ⟨eN, ?_⟩
    unfold cqE
    rw [eN, e1]; exact hth
  · exact absurd hjf q
end RUN
