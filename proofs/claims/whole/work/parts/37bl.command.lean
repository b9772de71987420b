/-! A command. -/
theorem m_X13_command (l9 : Launch) (D : va_G) (k : Nat → ClassId) (sz : Nat) (q : Nat → Nat) (th ea fa : Int32) (ch tn he en ln : Nat) (sv wr dg : Bool) (tx lf v : Nat → Int32) (fl nx : Nat → UInt32) (hen : en ≤ 60) (hhe : he ≤ en) (hok : okV v fl) : Met l9 yX13_command wsX13_command ({ frames := 5, cells := 0, slots := 0, locals := 114 }) (WPc D k [.ref (q 0)] (bMO k q th ea fa ch tn he en ln sv false dg ++ bI60 k (q 14) tx ++ bI10 k (q 16) lf ++ bI59 k (q 17) wdK ++ bI11 k (q 18) waI ++ bI83 k (q 1) v ++ bF10 k (q 6) fl ++ bF10 k (q 10) nx) sz) (WV D k (bMO k q ((cmX tx en he dg th v fl nx).1) ea fa ch tn ((cmP tx en he).1) en ln sv ((cmP tx en he).2.1) dg ++ bI60 k (q 14) tx ++ bI10 k (q 16) (lfZ tx en he) ++ bI59 k (q 17) wdK ++ bI11 k (q 18) waI ++ bI83 k (q 1) ((cmX tx en he dg th v fl nx).2.1) ++ bF10 k (q 6) ((cmX tx en he dg th v fl nx).2.2.1) ++ bF10 k (q 10) ((cmX tx en he dg th v fl nx).2.2.2)) (va_A (bMO k q th ea fa ch tn he en ln sv false dg ++ bI60 k (q 14) tx ++ bI10 k (q 16) lf ++ bI59 k (q 17) wdK ++ bI11 k (q 18) waI ++ bI83 k (q 1) v ++ bF10 k (q 6) fl ++ bF10 k (q 10) nx) sz)) 0 0 (va_A (bMO k q th ea fa ch tn he en ln sv false dg ++ bI60 k (q 14) tx ++ bI10 k (q 16) lf ++ bI59 k (q 17) wdK ++ bI11 k (q 18) waI ++ bI83 k (q 1) v ++ bF10 k (q 6) fl ++ bF10 k (q 10) nx) sz) := by
  cases hw2 : (wdS tx en he).2.1 with
  | true => exact m_X13_command_e l9 D k sz q th ea fa ch tn he en ln sv wr dg tx lf v fl nx _ hen hhe hok rfl hw2
  | false =>
    obtain ⟨w9, hw9, hw3, _⟩ := wdS_nat hw2
    rcases (show w9 = 0 ∨ w9 = 1 ∨ w9 = 2 ∨ w9 = 3 ∨ w9 = 4 ∨ w9 = 5 ∨ w9 = 6 ∨ w9 = 7 ∨ w9 = 8 ∨ w9 = 9 by omega) with rfl | rfl | rfl | rfl | rfl | rfl | rfl | rfl | rfl | rfl
    · exact m_X13_command_0 l9 D k sz q th ea fa ch tn he en ln sv wr dg tx lf v fl nx _ hen hhe hok rfl hw2 hw3
    · exact m_X13_command_1 l9 D k sz q th ea fa ch tn he en ln sv wr dg tx lf v fl nx _ hen hhe hok rfl hw2 hw3
    · exact m_X13_command_2 l9 D k sz q th ea fa ch tn he en ln sv wr dg tx lf v fl nx _ hen hhe hok rfl hw2 hw3
    · exact m_X13_command_3 l9 D k sz q th ea fa ch tn he en ln sv wr dg tx lf v fl nx _ hen hhe hok rfl hw2 hw3
    · exact m_X13_command_4 l9 D k sz q th ea fa ch tn he en ln sv wr dg tx lf v fl nx _ hen hhe hok rfl hw2 hw3
    · exact m_X13_command_5 l9 D k sz q th ea fa ch tn he en ln sv wr dg tx lf v fl nx _ hen hhe hok rfl hw2 hw3
    · exact m_X13_command_6 l9 D k sz q th ea fa ch tn he en ln sv wr dg tx lf v fl nx _ hen hhe hok rfl hw2 hw3
    · exact m_X13_command_7 l9 D k sz q th ea fa ch tn he en ln sv wr dg tx lf v fl nx _ hen hhe hok rfl hw2 hw3
    · exact m_X13_command_8 l9 D k sz q th ea fa ch tn he en ln sv wr dg tx lf v fl nx _ hen hhe hok rfl hw2 hw3
    · exact m_X13_command_9 l9 D k sz q th ea fa ch tn he en ln sv wr dg tx lf v fl nx _ hen hhe hok rfl hw2 hw3