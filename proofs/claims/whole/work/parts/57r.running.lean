/-! The law's run of a text, what is pure in it. -/
theorem psR_bd {ts : Nat → Int32} {tl : Nat} {kf : Nat → Nat} {V : Nat → Nat → Int32} {vc sp : Nat} {fs : Nat → Option Nat} (htl : tl ≤ 60) (hvc : vc ≤ 3) (hsp : sp ≤ 60) : (psR ts tl kf (0, V, vc, sp, fs)).2.1 ≤ 10 ∧ (psR ts tl kf (0, V, vc, sp, fs)).2.2.2.1 ≤ 3 ∧ (psR ts tl kf (0, V, vc, sp, fs)).2.2.2.2.1 ≤ 60 := by
  obtain ⟨h10, hG⟩ := psN_le ts tl kf (0, V, vc, sp, fs)
  have hle := psU_le (ts := ts) (kf := kf) (s := (0, V, vc, sp, fs)) htl (Nat.zero_le _) hsp (psN ts tl kf (0, V, vc, sp, fs)) hG
  have hv := psU_vc (ts := ts) (tl := tl) (kf := kf) (s := (0, V, vc, sp, fs)) hvc (psN ts tl kf (0, V, vc, sp, fs))
  have hr : psR ts tl kf (0, V, vc, sp, fs) = psE ts tl kf (psN ts tl kf (0, V, vc, sp, fs)) (psU ts tl kf (0, V, vc, sp, fs) (psN ts tl kf (0, V, vc, sp, fs))) := rfl
  rw [hr]
  clear hr hG
  generalize psU ts tl kf (0, V, vc, sp, fs) (psN ts tl kf (0, V, vc, sp, fs)) = u at hle hv ⊢
  generalize psN ts tl kf (0, V, vc, sp, fs) = i at h10 ⊢
  unfold psE
  split
  · exact ⟨show 9 ≤ 10 by decide, hv, hle.2⟩
  · split
    · have h1 : (rfE ts tl i u.1 u.2.1 u.2.2.1 u.2.2.2.1).2.1 ≤ tl := rfE_le hle.1
      have h2 : (rfE ts tl i u.1 u.2.1 u.2.2.1 u.2.2.2.1).2.2.1 ≤ 3 := tfE_vc _ _ _ _ _ _
      split
      · exact ⟨show i ≤ 10 from h10, h2, Nat.le_trans h1 htl⟩
      · rename_i q _ _
        exact ⟨show i + 1 ≤ 10 by omega, h2, Nat.le_trans h1 htl⟩
    · have h3 : (rfU ts tl i u.1 u.2.1 u.2.2.1 u.2.2.2.1 10).2.2.1 ≤ 3 := rfU_vc (cm := i) hv 10
      have h4 : (rfU ts tl i u.1 u.2.1 u.2.2.1 u.2.2.2.1 10).1 ≤ tl := (rfU_le (cm := i) hle.1 htl hle.2 10).1
      generalize rfU ts tl i u.1 u.2.1 u.2.2.1 u.2.2.2.1 10 = R at h3 h4 ⊢
      exact ⟨show i ≤ 10 from h10, h3, Nat.le_trans h4 htl⟩
set_option maxHeartbeats 1000000 in
theorem pc_run {S : SC} {v : Nat → Int32} {f : Nat → UInt32} (hG : RelG S v f) (nx : Nat → UInt32) {ts tx : Nat → Int32} {tl : Nat} (htl : tl ≤ 60) (hg : ∀ p, sgn ts tl p = sgn tx tl p) (ho : tsOk ts tl) (kf : Nat → Nat) (V : Nat → Nat → Int32) (vc sp : Nat) (fs : Nat → Option Nat) :
    (¬ (psR ts tl kf (0, V, vc, sp, fs)).1 = -1 ∧ (cqE tx tl false 0 v f nx).2.1 = true ∧ (psR ts tl kf (0, V, vc, sp, fs)).1 = nI (cqE tx tl false 0 v f nx).1 ∧ 0 ≤ (psR ts tl kf (0, V, vc, sp, fs)).1) ∨
    ((psR ts tl kf (0, V, vc, sp, fs)).1 = -1 ∧ (cqE tx tl false 0 v f nx).2.1 = false ∧ (∀ c, c < (psR ts tl kf (0, V, vc, sp, fs)).2.1 → ¬ ruA (pfF ts tl kf (0, V, vc, sp, fs)) (psR ts tl kf (0, V, vc, sp, fs)).2.2.1 S c < 0) ∧ (cqE tx tl true 0 v f nx).2.2.1 = 0 ∧ (psR ts tl kf (0, V, vc, sp, fs)).2.1 = cqN tx tl true 0 v f nx + 1 ∧ RelG (ruU (pfF ts tl kf (0, V, vc, sp, fs)) (psR ts tl kf (0, V, vc, sp, fs)).2.2.1 S (psR ts tl kf (0, V, vc, sp, fs)).2.1) (cqE tx tl true 0 v f nx).2.2.2.1 (cqE tx tl true 0 v f nx).2.2.2.2.1) ∨
    ((psR ts tl kf (0, V, vc, sp, fs)).1 = -1 ∧ (cqE tx tl false 0 v f nx).2.1 = false ∧ ∃ j9, j9 < (psR ts tl kf (0, V, vc, sp, fs)).2.1 ∧ (∀ c, c < j9 → ¬ ruA (pfF ts tl kf (0, V, vc, sp, fs)) (psR ts tl kf (0, V, vc, sp, fs)).2.2.1 S c < 0) ∧ ruA (pfF ts tl kf (0, V, vc, sp, fs)) (psR ts tl kf (0, V, vc, sp, fs)).2.2.1 S j9 < 0 ∧ ¬ (cqE tx tl true 0 v f nx).2.2.1 = 0 ∧ cqN tx tl true 0 v f nx = j9) := by
  obtain ⟨N, hN, hgd, hn⟩ := gd_N hg ho htl
  obtain ⟨p1, p2⟩ := ps_end hg ho kf V vc sp fs hN hgd hn
  obtain ⟨c1, c2, -⟩ := cq_end v f nx hN hgd hn
  have hst : stC tx tl N ≤ tl := by
    have := stC_7 hg ho hgd
    rcases Nat.eq_zero_or_pos N with q | q
    · subst q
      exact Nat.zero_le _
    · exact this.2 q
  have hle := cmP_le tx hst
  by_cases q : (cmP tx tl (stC tx tl N)).2.1 = true ∨ (cmP tx tl (stC tx tl N)).1 < tl
  · left
    have e := p1 q
    have hp : (cmP tx tl (stC tx tl N)).1 < 2 ^ 31 := by omega
    exact ⟨by rw [e]; exact nI_nm1 hp, c2.mpr q, by rw [e, c1], by rw [e]; exact Int32.not_lt.mp (nI_pos hp)⟩
  · right
    have q1 : (cmP tx tl (stC tx tl N)).2.1 = false := by
      cases q3 : (cmP tx tl (stC tx tl N)).2.1 with
      | false => rfl
      | true => exact absurd (Or.inl q3) q
    have q2 : ¬ (cmP tx tl (stC tx tl N)).1 < tl := fun h => q (Or.inr h)
    obtain ⟨e1, e2, e3⟩ := p2 q1 q2
    have e4 : (cqE tx tl false 0 v f nx).2.1 = false := by
      cases q3 : (cqE tx tl false 0 v f nx).2.1 with
      | false => rfl
      | true => exact absurd (c2.mp q3) q
    rw [e2]
    by_cases ha : ∃ c, c < N + 1 ∧ ruA (pfF ts tl kf (0, V, vc, sp, fs)) (psR ts tl kf (0, V, vc, sp, fs)).2.2.1 S c < 0
    · right
      obtain ⟨j9, ⟨h1, h2⟩, h3⟩ := pk_least (fun c => c < N + 1 ∧ ruA (pfF ts tl kf (0, V, vc, sp, fs)) (psR ts tl kf (0, V, vc, sp, fs)).2.2.1 S c < 0) ha
      have h4 : ∀ c, c < j9 → ¬ ruA (pfF ts tl kf (0, V, vc, sp, fs)) (psR ts tl kf (0, V, vc, sp, fs)).2.2.1 S c < 0 := fun c hc hr => h3 c hc ⟨by omega, hr⟩
      obtain ⟨g1, g2⟩ := run_no hg ho hN hgd q1 kf V vc sp fs e3 hG.1.1 hG.2 hG.1.2.1 nx (show j9 ≤ N by omega) h4 h2
      exact ⟨e1, e4, j9, h1, h4, h2, g2, g1⟩
    · left
      have h4 : ∀ c, c < N + 1 → ¬ ruA (pfF ts tl kf (0, V, vc, sp, fs)) (psR ts tl kf (0, V, vc, sp, fs)).2.2.1 S c < 0 := fun c hc hr => ha ⟨c, hc, hr⟩
      obtain ⟨g1, g2, g3, g4⟩ := run_ok hg ho hN hgd q1 q2 kf V vc sp fs e3 hG.1.1 hG.2 hG.1.2.1 nx h4
      exact ⟨e1, e4, h4, g2, by rw [g1], good_ru _ _ hG.1 _, g3⟩
