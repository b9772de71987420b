/-! What the Statement gives of the start. -/
theorem va_OF_inj {o n d : String} {v w : Value} {t : Nat} {A : Nat → Prop} {U : State} {H : Heap} (h1 : va_OF o n d v t A U H) (h2 : va_OF o n d w t A U H) : v = w := by
  obtain ⟨cf, k, i, f, cell, a1, -, a3, -, a5, -⟩ := h1
  obtain ⟨cf2, k2, i2, f2, cell2, b1, -, b3, -, b5, -⟩ := h2
  cases a1.symm.trans b1
  cases a3.symm.trans b3
  exact Option.some.inj (a5.symm.trans b5)
section PREM
variable {s : State} {b : Nat} {A : Nat → Prop}
theorem law_nw (hts : ∀ w ∈ lw_tbl, w.before #[Value.ref b] s = true) : NW s := fun w hw => va_Nw.of (nwL_tables w hw) (hts w (nw_in w hw))
theorem law_xn (hts : ∀ w ∈ lw_tbl, w.before #[Value.ref b] s = true) (hs : ∀ w ∈ flatC (Jvm.Cond.and given_1 narrow_1), w.before #[Value.ref b] s = true) : XN s := by
  refine ⟨fun w hw => va_Nw.of (xnL_tables w hw) (hts w (xn_in w hw)), fun q hq => ?_⟩
  obtain ⟨a, c, cA, kA, q1, -⟩ := Cond.exactly_spec (args := #[Value.ref b]) (first := s) (o := none) (s := s) (idx := []) (t := .string RX12 q.1) (cls := "java/lang/String") (hs _ (se_in q hq))
  exact ⟨a, vk_R.of (hts _ (sr9_in q hq)) q1⟩
theorem law_nc (hs : ∀ w ∈ flatC (Jvm.Cond.and given_1 narrow_1), w.before #[Value.ref b] s = true) : ∀ q ∈ ncL, va_Nc q.1 q.2 s := fun q hq => va_Nc.of (hs _ (nc_in q hq))
theorem law_xz (hts : ∀ w ∈ lw_tbl, w.before #[Value.ref b] s = true) (hs : ∀ w ∈ flatC (Jvm.Cond.and given_1 narrow_1), w.before #[Value.ref b] s = true) (hA : ∀ a : Nat, a < s.heap.size → ¬ A a) : XZ A s s.heap :=
  ⟨vx_Zqof (hts _ t1_in) (hts _ t2_in) (hs _ z1_in) hA, vx_Zqof (hts _ t3_in) (hts _ t2_in) (hs _ z2_in) hA⟩
theorem law_ao (hts : ∀ w ∈ lw_tbl, w.before #[Value.ref b] s = true) : AO s := ⟨va_AOA.of (hts _ t14_in), va_AOA.of (hts _ t15_in), va_AO.of (hts _ t16_in), va_AO.of (hts _ t17_in)⟩
theorem law_ks (hs : ∀ w ∈ flatC (Jvm.Cond.and given_1 narrow_1), w.before #[Value.ref b] s = true) (hA : ∀ a : Nat, a < s.heap.size → ¬ A a) : ∃ ks kv : Nat → Nat, vk_S 12 lnL txL ks kv A s s.heap ∧ ∀ i : Nat, i < 12 → (tmS i).eval #[Value.ref b] s none [] s = some (.ref (ks i)) := by
  have h0 : ∀ i : Nat, ∃ q : Nat × Nat, i < 12 → (tmS i).eval #[Value.ref b] s none [] s = some (.ref q.1) ∧ va_O "java/lang/String" q.1 A s s.heap ∧ va_OF "java/lang/String" "coder" "B" (.int 0) q.1 A s s.heap ∧ va_OF "java/lang/String" "value" "[B" (.ref q.2) q.1 A s s.heap ∧ va_T .byte q.2 (lnL.getD i 0) (fun j => .int ((txL.getD i []).getD j 0)) A s s.heap := by
    intro i
    by_cases hi : i < 12
    · obtain ⟨a, c, cA, kA, q1, -⟩ := Cond.exactly_spec (args := #[Value.ref b]) (first := s) (o := none) (s := s) (idx := []) (t := tmS i) (cls := "java/lang/String") (hs _ (s1_in i hi))
      obtain ⟨t, ht, hT⟩ := va_Tof (f := fun j => .int ((txL.getD i []).getD j 0)) (A := A) (ln_lt i hi) (hs _ (s3_in i hi)) (va_eqt (hs _ (s4_in i hi))) (fun j hj => va_eqt (hs _ (s5_in i hi j hj))) hA
      exact ⟨(a, t), fun _ => ⟨q1, va_Oof (hs _ (s1_in i hi)) q1 hA, vk_OFof q1 (va_eqt (hs _ (s2_in i hi))) hA, vk_OFof q1 ht hA, hT⟩⟩
    · exact ⟨(0, 0), fun h => absurd h hi⟩
  obtain ⟨ad, had⟩ := Classical.axiomOfChoice h0
  refine ⟨fun i => (ad i).1, fun i => (ad i).2, ⟨fun i hi => (had i hi).2, fun i j hi hj e => ?_⟩, fun i hi => (had i hi).1⟩
  have e : (ad i).1 = (ad j).1 := e
  obtain ⟨-, -, -, v1, T1⟩ := had i hi
  obtain ⟨-, -, -, v2, T2⟩ := had j hj
  rw [← e] at v2
  have ev := va_OF_inj v1 v2
  injection ev with ev
  rw [← ev] at T2
  obtain ⟨cell, a1, -, -, a4, a5, a6, -⟩ := T1
  obtain ⟨cell2, b1, -, -, b4, b5, b6, -⟩ := T2
  cases a1.symm.trans b1
  have el : lnL.getD i 0 = lnL.getD j 0 := by
    have h1 := congrArg Int32.toNatClampNeg (a5.symm.trans b5)
    rw [Int32.toNatClampNeg_ofNat_of_lt (ln_lt i hi), Int32.toNatClampNeg_ofNat_of_lt (ln_lt j hj)] at h1
    exact h1
  refine tx_inj i hi j hj el (fun c hc => ?_)
  have h1 := Option.some.inj ((a6 c hc).symm.trans (b6 c (by rw [← el]; exact hc)))
  injection h1
theorem law_kc (hts : ∀ w ∈ lw_tbl, w.before #[Value.ref b] s = true) (hs : ∀ w ∈ flatC (Jvm.Cond.and given_1 narrow_1), w.before #[Value.ref b] s = true) (hA : ∀ a : Nat, a < s.heap.size → ¬ A a) : ∃ (ks kv kf : Nat → Nat) (ka kw : Nat), KC ks kv kf ka kw A s s.heap := by
  obtain ⟨ks, kv, hS, hev⟩ := law_ks hs hA
  have h0 : ∀ i : Nat, ∃ a : Nat, i < 10 → (tmF i).eval #[Value.ref b] s none [] s = some (.ref a) := by
    intro i
    by_cases hi : i < 10
    · obtain ⟨a, c, cA, kA, q1, -⟩ := Cond.exactly_spec (args := #[Value.ref b]) (first := s) (o := none) (s := s) (idx := []) (t := tmF i) (cls := RX7) (hs _ (f1_in i hi))
      exact ⟨a, fun _ => q1⟩
    · exact ⟨0, fun h => absurd h hi⟩
  obtain ⟨kf, hkf⟩ := Classical.axiomOfChoice h0
  obtain ⟨ka, hka, hTa⟩ := va_Tof (N := 10) (f := fun i => .ref (kf i)) (A := A) (by decide) (hs _ z4_in) (va_eqt (hs _ z5_in)) (fun j hj => va_eqv (hs _ (f4_in j hj)) (hkf j hj)) hA
  obtain ⟨kw, hkw, hTw⟩ := va_Tof (N := 10) (f := fun j => .int (nI (swM j))) (A := A) (by decide) (hs _ z8_in) (va_eqt (hs _ z9_in)) (fun j hj => va_eqt (hs _ (f5_in j hj))) hA
  refine ⟨ks, kv, kf, ka, kw, hS, ?_, ?_, ?_, ?_, hTa, ?_, ?_, hTw, ?_, ?_, ?_⟩
  · exact va_Efof (E := RX7) (d0 := "LOpinionReactor$Form;") (nm := fmN) (tm := tmS) hkf (fun i hi => hs _ (f2_in i hi)) (fun i hi => hev i (by omega)) hA
  · exact va_Efof (E := RX7) (d0 := "LOpinionReactor$Form;") (nm := fmN) (tm := fun i => .int (nI i)) hkf (fun i hi => hs _ (f3_in i hi)) (fun i hi => rfl) hA
  · exact fun i hi => va_Oof (hs _ (f1_in i hi)) (hkf i hi) hA
  · exact va_Zof (hts _ t4_in) (hts _ t5_in) hka hA
  · exact va_Zof (hts _ t6_in) (hts _ t7_in) (va_eqi (hs _ z6_in)) hA
  · exact va_Zof (hts _ t10_in) (hts _ t11_in) hkw hA
  · exact va_Zqof (hts _ t8_in) (hts _ t9_in) (hs _ z7_in) hA
  · exact vk_R.of (hts _ t12_in) (hev 10 (by decide))
  · exact vk_R.of (hts _ t13_in) (hev 11 (by decide))
theorem arr_K {ty : FieldType} (h : (Cond.arrayClass ty).before #[Value.ref b] s = true) (hp : ty = .int ∨ ty = .char ∨ ty = .float ∨ ty = .long ∨ ty = .double) : ∃ cA : ClassId, ArrOfT s cA ty ∧ va_RA s cA ty := by
  obtain ⟨c, k, comp, h1, h2, h3⟩ := Cond.arrayClass_spec h
  refine ⟨c, fun n z => ⟨fun k h => (by cases h), k, h2, comp, h3⟩, ?_⟩
  rcases hp with rfl | rfl | rfl | rfl | rfl <;> exact h1
theorem arr_O {n : String} (h : (Cond.arrayOver (.object n)).before #[Value.ref b] s = true) : ∃ cA : ClassId, ArrOfT s cA (.object n) ∧ va_RA s cA (.object n) := by
  obtain ⟨comp, c, k, h1, -, h2, h3, h4⟩ := Cond.arrayOver_spec h
  exact ⟨c, fun n z => ⟨fun k h => (by cases h), k, h2, comp, h3⟩, k, comp, h2, h3, h1, h4⟩
theorem arr_A {t : FieldType} (h : (Cond.arrayOver (.array t)).before #[Value.ref b] s = true) : ∃ cA : ClassId, ArrOfT s cA (.array t) ∧ va_RA s cA (.array t) := by
  obtain ⟨comp, c, k, h1, -, h2, h3, h4⟩ := Jvm.Stand.arrayOver_specB h
  exact ⟨c, fun n z => ⟨fun k h => (by cases h), k, h2, comp, h3⟩, h4⟩
theorem law_K (hts : ∀ w ∈ lw_tbl, w.before #[Value.ref b] s = true) : ∃ (D : va_G) (k : Nat → ClassId), va_K D vwCl (tyL k) s := by
  obtain ⟨c0, j0, h0⟩ := u_known (C := RJ0) (T := TJ0) (N := 2) (n := 4) hts k0_in (hts _ i0_in)
  obtain ⟨c1, j1, h1⟩ := u_known (C := RJx00060) (T := TJx00060) (N := 6) (n := 6) hts k1_in (hts _ i1_in)
  obtain ⟨c2, j2, h2⟩ := u_known (C := RX1) (T := TX1) (N := 1) (n := 1) hts k2_in (hts _ i2_in)
  obtain ⟨c3, j3, h3⟩ := u_known (C := RX3) (T := TX3) (N := 4) (n := 4) hts k3_in (hts _ i3_in)
  obtain ⟨c4, j4, h4⟩ := u_known (C := RX4) (T := TX4) (N := 1) (n := 1) hts k4_in (hts _ i4_in)
  obtain ⟨c5, j5, h5⟩ := u_known (C := RX5) (T := TX5) (N := 6) (n := 6) hts k5_in (hts _ i5_in)
  obtain ⟨c6, j6, h6⟩ := u_known (C := RX6) (T := TX6) (N := 7) (n := 7) hts k6_in (hts _ i6_in)
  obtain ⟨c7, j7, h7⟩ := u_known (C := RX8) (T := TX8) (N := 4) (n := 4) hts k7_in (hts _ i7_in)
  obtain ⟨c8, j8, h8⟩ := u_known (C := RX10) (T := TX10) (N := 2) (n := 2) hts k8_in (hts _ i8_in)
  obtain ⟨c9, j9, h9⟩ := u_known (C := RX11) (T := TX11) (N := 7) (n := 7) hts k9_in (hts _ i9_in)
  obtain ⟨c10, j10, h10⟩ := u_known (C := RX12) (T := TX12) (N := 16) (n := 16) hts k10_in (hts _ i10_in)
  obtain ⟨c11, j11, h11⟩ := u_known (C := RX13) (T := TX13) (N := 29) (n := 29) hts k11_in (hts _ i11_in)
  obtain ⟨a0, g0⟩ := arr_K (hts _ t18_in) (Or.inl rfl)
  obtain ⟨a1, g1⟩ := arr_K (hts _ t19_in) (Or.inr (Or.inl rfl))
  obtain ⟨a2, g2⟩ := arr_K (hts _ t20_in) (Or.inr (Or.inr (Or.inl rfl)))
  obtain ⟨a3, g3⟩ := arr_K (hts _ t21_in) (Or.inr (Or.inr (Or.inr (Or.inl rfl))))
  obtain ⟨a4, g4⟩ := arr_A (hts _ t14_in)
  obtain ⟨a5, g5⟩ := arr_A (hts _ t15_in)
  obtain ⟨a6, g6⟩ := arr_O (hts _ t16_in)
  obtain ⟨a7, g7⟩ := arr_O (hts _ t17_in)
  obtain ⟨a8, g8⟩ := arr_K (hts _ t22_in) (Or.inr (Or.inr (Or.inr (Or.inr rfl))))
  refine ⟨(fun x => [c0, c1, c2, c3, c4, c5, c6, c7, c8, c9, c10, c11].getD x 0, fun x => [j0, j1, j2, j3, j4, j5, j6, j7, j8, j9, j10, j11].getD x (fun _ => 0)), fun x => [a0, a1, a2, a3, a4, a5, a6, a7, a8].getD x 0, ⟨fun c q hq => ?_, fun x q hq => ?_⟩⟩
  · match c, hq with
    | 0, hq => cases hq; exact h0
    | 1, hq => cases hq; exact h1
    | 2, hq => cases hq; exact h2
    | 3, hq => cases hq; exact h3
    | 4, hq => cases hq; exact h4
    | 5, hq => cases hq; exact h5
    | 6, hq => cases hq; exact h6
    | 7, hq => cases hq; exact h7
    | 8, hq => cases hq; exact h8
    | 9, hq => cases hq; exact h9
    | 10, hq => cases hq; exact h10
    | 11, hq => cases hq; exact h11
    | c + 12, hq => exact absurd hq (by simp [vwCl])
  · match x, hq with
    | 0, hq => cases hq; exact g0
    | 1, hq => cases hq; exact g1
    | 2, hq => cases hq; exact g2
    | 3, hq => cases hq; exact g3
    | 4, hq => cases hq; exact g4
    | 5, hq => cases hq; exact g5
    | 6, hq => cases hq; exact g6
    | 7, hq => cases hq; exact g7
    | 8, hq => cases hq; exact g8
    | x + 9, hq => exact absurd hq (by simp [tyL])
end PREM
