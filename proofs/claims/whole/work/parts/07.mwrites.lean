/-! The model: small writes. -/
/-- g below i, f from i on -/
def fil {α : Type} (f g : Nat → α) (i : Nat) : Nat → α := fun j => if j < i then g j else f j
theorem fil_in {α : Type} {f g : Nat → α} {i j : Nat} (h : j < i) : fil f g i j = g j := if_pos h
theorem fil_0 {α : Type} (f g : Nat → α) : f = fil f g 0 := by funext j; simp [fil]
theorem fil_u (f g : Nat → Int32) (i : Nat) : upd (fil f g i) i (g i) = fil f g (i + 1) := by
  funext j
  unfold upd fil
  by_cases h : j = i
  · subst h; simp
  · by_cases h2 : j < i
    · simp [h, h2, Nat.lt_succ_of_lt h2]
    · simp [h, h2, show ¬ j < i + 1 by omega]
theorem fil_v (f g : Nat → UInt32) (i : Nat) : vf_upd (fil f g i) i (g i) = fil f g (i + 1) := by
  funext j
  unfold vf_upd fil
  by_cases h : j = i
  · subst h; simp
  · by_cases h2 : j < i
    · simp [h, h2, Nat.lt_succ_of_lt h2]
    · simp [h, h2, show ¬ j < i + 1 by omega]
/-- an array's values beyond its end are of no account -/
theorem ext_i {D : va_G} {A : Nat → Prop} {ws : va_W} {H : Heap} {a n : Nat} {cA : ClassId} {f g : Nat → Int32} (hP : va_P D vwCl ws H) (hD : va_D A ws) (i : Nat) (he : ws[i]? = some (a, .inl (cA, n, .inl f))) (h : ∀ j, j < n → f j = g j) : va_P D vwCl (ws.set i (a, .inl (cA, n, .inl g))) H ∧ va_D A (ws.set i (a, .inl (cA, n, .inl g))) := by
  refine ⟨hP.set hD he ?_ (fun _ _ => rfl), hD.set he⟩
  have h0 : H[a]? = some (vp_cell cA (n, .inl f)) := hP i _ he
  show H[a]? = some (vp_cell cA (n, .inl g))
  rw [h0, vp_cell_i, vp_cell_i]
  unfold arrV
  congr 3
  funext j
  exact congrArg Value.int (h j.val j.isLt)
theorem ext_f {D : va_G} {A : Nat → Prop} {ws : va_W} {H : Heap} {a n : Nat} {cA : ClassId} {f g : Nat → UInt32} (hP : va_P D vwCl ws H) (hD : va_D A ws) (i : Nat) (he : ws[i]? = some (a, .inl (cA, n, .inr (.inr (.inl f))))) (h : ∀ j, j < n → f j = g j) : va_P D vwCl (ws.set i (a, .inl (cA, n, .inr (.inr (.inl g))))) H ∧ va_D A (ws.set i (a, .inl (cA, n, .inr (.inr (.inl g))))) := by
  refine ⟨hP.set hD he ?_ (fun _ _ => rfl), hD.set he⟩
  have h0 : H[a]? = some (vp_cell cA (n, .inr (.inr (.inl f)))) := hP i _ he
  show H[a]? = some (vp_cell cA (n, .inr (.inr (.inl g))))
  rw [h0, vp_cell_f, vp_cell_f]
  unfold arrV
  congr 3
  funext j
  exact congrArg Value.float (h j.val j.isLt)
theorem upd_at (f : Nat → Int32) (k : Nat) (x : Int32) (j : Nat) : upd f k x j = if j = k then x else f j := rfl
/-- the model's racks: the kind of a layer, its slots -/
def rkS (v : Nat → Int32) (l s : Nat) : Int32 := v (35 + 4 * l + s)
def stM (x : Int32) : Int32 := if x = 113 then 2 else if x = 111 then 3 else 0
def dpmM (v : Nat → Int32) (l m : Nat) : Int32 := up (fun i acc => acc + stM (rkS v l (i + 1))) 0 m
theorem dpmM_s (v : Nat → Int32) (l m : Nat) : dpmM v l (m + 1) = dpmM v l m + stM (rkS v l (m + 1)) := rfl
def dpM (v : Nat → Int32) (l : Nat) : Int32 := dpmM v l 3
def chM (v : Nat → Int32) (l : Nat) (z : Int32) : Bool := decide (rkS v l 0 = 97) || decide (rkS v l 0 = z)
/-- the log's rows move on by two -/
def lgm (v : Nat → Int32) (m : Nat) : Nat → Int32 := fun j => if 51 ≤ j ∧ j < 51 + m then v (j + 2) else v j
theorem lgm_0 (v : Nat → Int32) : v = lgm v 0 := by funext j; simp [lgm]; omega
theorem lgm_u (v : Nat → Int32) (m : Nat) : upd (lgm v m) (51 + m) (lgm v m (51 + m + 2)) = lgm v (m + 1) := by
  funext j
  unfold upd lgm
  by_cases h : j = 51 + m
  · subst h; rw [if_pos rfl, if_neg (by omega), if_pos (by omega)]
  · by_cases h2 : 51 ≤ j ∧ j < 51 + m
    · simp [h, h2, show j < 51 + (m + 1) by omega]
    · simp [h, h2, show ¬ (51 ≤ j ∧ j < 51 + (m + 1)) by omega]
/-- an entry of the log, of n entries -/
def lgW (v : Nat → Int32) (n : Nat) (kind : Int32) : Nat → Int32 := upd (upd (upd v (51 + 2 * n) (v 2)) (51 + 2 * n + 1) kind) 4 (nI (n + 1))
def lgS (v : Nat → Int32) (n : Nat) (kind : Int32) : Nat → Int32 := if n = 16 then lgW (upd (lgm v 30) 4 (nI 15)) 15 kind else lgW v n kind
/-- the model's changes: answer, what is thrown, the numbers -/
def opSets (v : Nat → Int32) (n : Nat) (th x y : Int32) (b : Bool) : Int32 × Int32 × (Nat → Int32) :=
  if inC n x = true ∧ inC n y = true then (bI (tb (vt v x.toNatClampNeg) y.toNatClampNeg), th, if tb (vt v x.toNatClampNeg) y.toNatClampNeg = b then v else upd v (5 + 3 * x.toNatClampNeg + 2) (v (5 + 3 * x.toNatClampNeg + 2) ^^^ bt y.toNatClampNeg)) else (0, 1, v)
def opMoves (v : Nat → Int32) (n : Nat) (th x y : Int32) : Int32 × Int32 × (Nat → Int32) :=
  if inC n x = true ∧ rg 0 y 3 = true then (v (5 + 3 * x.toNatClampNeg + 1), th, upd v (5 + 3 * x.toNatClampNeg + 1) y) else (0, 1, v)
def opLimits (v : Nat → Int32) (th x : Int32) : Int32 × Int32 × (Nat → Int32) :=
  if rg 1 x 9999 = true then (v 1, th, upd v 1 x) else (0, 1, v)
def opRacks (v : Nat → Int32) (th x z : Int32) : Int32 × Int32 × (Nat → Int32) :=
  if rg 0 x 3 = true then if z = 113 ∨ z = 111 ∨ z = 97 then if dpM v x.toNatClampNeg ≤ 0 then (v (35 + 4 * x.toNatClampNeg + 0), th, upd v (35 + 4 * x.toNatClampNeg + 0) z) else (0, 3, v) else (0, 2, v) else (0, 1, v)

set_option maxHeartbeats 4000000 in
set_option maxRecDepth 100000 in
theorem m_X13_fail (l9 : Launch) (D : va_G) (k : Nat → ClassId) (sz : Nat) (q : Nat → Nat) (th ea fa : Int32) (ch tn he en ln : Nat) (sv wr dg : Bool) (x : Int32) : Met l9 yX13_fail wsX13_fail ({ frames := 0, cells := 0, slots := 0, locals := 0 }) (WPc D k [.ref (q 0), .int x] (bMO k q th ea fa ch tn he en ln sv wr dg) sz) (WI D k (bMO k q x ea fa ch tn he en ln sv wr dg) 0 (va_A (bMO k q th ea fa ch tn he en ln sv wr dg) sz)) 0 0 (va_A (bMO k q th ea fa ch tn he en ln sv wr dg) sz) := by
  refine wMet (y := yX13_fail) (cc := cX13_fail) (maxL := 2) (ret := (some .int)) (Qc := fun A => WI D k (bMO k q x ea fa ch tn he en ln sv wr dg) 0 A) [.ref (q 0), .int x] (by decide) rfl (Nat.le_of_ble_eq_true rfl) ?_
  intro p9 e9 s9 m9 bl9 me9 c9 ls A H hF hr hlocks hP hK hN hD hA hS hl hin
  have hl : lv_has ls 2 [(0, .ref (q 0)), (1, .int x)] := hl
  obtain ⟨hx, hb, hml, hown, hts⟩ := id hF
  have k_fieldLink_77 : (Cond.fieldLink RX13 77 "OpinionReactorModel" "thrown" "I").before _ s9 = true := hts (.fieldLink RX13 77 "OpinionReactorModel" "thrown" "I") (by decide +kernel)
  have kc_RX13 : ∀ w ∈ u_ws RX13 TX13 29, w ∈ wsX13_fail := by decide +kernel
  refine lv_aload_n hx hb dX13_fail_0 rfl (lv_at hl 0 rfl) ?_
  refine lv_iload_n hx hb dX13_fail_1 rfl (lv_at hl 1 rfl) ?_
  refine va_put (D := D) (ci := 11) (v := .int x) (ty := .int) (C := RX13) (T := TX13) (N := 29) hx hb hts kc_RX13 tyX13 tyX13_ok nmX13 hown hK hP hD hS 0 rfl rfl 0 (by decide) k_fieldLink_77 (fun _ h9 => h9) rfl (by decide +kernel) rfl rfl (Nat.le_of_ble_eq_true rfl) dX13_fail_2 (fun H locs hP hD hS => ?_)
  have hP : va_P D vwCl (bMO k q x ea fa ch tn he en ln sv wr dg) H := hP
  have hD : va_D A (bMO k q x ea fa ch tn he en ln sv wr dg) := hD
  refine lv_iconst (v := 0) hx hb dX13_fail_5 (by decide) ?_
  exact W.iret (v := 0) hx hb hr (fun t9 ht hW => ⟨⟨_, (), rfl, (by rfl), ⟨by rw [ht]; exact hP, va_K.moved hW.alike hK, hD⟩⟩, hS.F ht⟩) hS.2.2 dX13_fail_6 hlocks

set_option maxHeartbeats 4000000 in
set_option maxRecDepth 100000 in
theorem m_X13_lays (l9 : Launch) (D : va_G) (k : Nat → ClassId) (sz : Nat) (ta ga : Nat) (f g : Nat → Int32) : Met l9 yX13_lays wsX13_lays ({ frames := 0, cells := 0, slots := 0, locals := 0 }) (WPc D k [.ref ta, .ref ga] (bI83 k ta f ++ bI83 k ga g) sz) (WV D k (bI83 k ta g ++ bI83 k ga g) (va_A (bI83 k ta f ++ bI83 k ga g) sz)) 0 0 (va_A (bI83 k ta f ++ bI83 k ga g) sz) := by
  refine wMet (y := yX13_lays) (cc := cX13_lays) (maxL := 3) (ret := none) (Qc := fun A => WV D k (bI83 k ta g ++ bI83 k ga g) A) [.ref ta, .ref ga] (by decide) rfl (Nat.le_of_ble_eq_true rfl) ?_
  intro p9 e9 s9 m9 bl9 me9 c9 ls A H hF hr hlocks hP hK hN hD hA hS hl hin
  have hl : lv_has ls 3 [(0, .ref ta), (1, .ref ga)] := hl
  obtain ⟨hx, hb, hml, hown, hts⟩ := id hF
  have loop_2 : ∀ (fuel : Nat) (i : Nat), (i ≤ 83) → 83 - i < fuel → ∀ (ls : Array Slot), ∀ (H : Heap) (locs : List Loc), va_P D vwCl (bI83 k ta (fil f g i) ++ bI83 k ga g) H → va_D A (bI83 k ta (fil f g i) ++ bI83 k ga g) → va_S A s9.heap H locs → lv_has ls 3 [(0, .ref ta), (1, .ref ga), (2, .int (nI i))] → W p9 l9 e9 ({ frames := 0, cells := 0, slots := 0, locals := 0 }) s9 m9 ([.ref ta, .ref ga] : List Value).toArray bl9 me9 c9 H locs 0 0 (MQ bl9 (WV D k (bI83 k ta g ++ bI83 k ga g) A) ([.ref ta, .ref ga] : List Value).toArray s9 0 0 A) (F0 m9 2 ls []) := by
    intro fuel
    induction fuel with
    | zero => intro i hi hfuel_2; exact absurd hfuel_2 (Nat.not_lt_zero _)
    | succ fuel ih_2 =>
      intro i hi hfuel_2 ls H locs hP hD hS hl
      refine lv_iload_n hx hb dX13_lays_2 rfl (lv_at hl 2 rfl) ?_
      refine lv_bipush (v := 83) hx hb dX13_lays_3 (by decide) ?_
      refine lv_icmp_ge (tgt := 20) hx hb dX13_lays_5 (by decide) (fun c_1 => ?_) (fun c_1 => ?_)
      · skip
        have c_1 : 83 ≤ i := (nI_leI (a := 83) (b := i) (by omega) (by omega)).mp c_1
        obtain ⟨hP, hD⟩ := ext_i hP hD 0 rfl (g := g) (fun j hj => fil_in (by omega))
        have hP : va_P D vwCl (bI83 k ta g ++ bI83 k ga g) H := hP
        have hD : va_D A (bI83 k ta g ++ bI83 k ga g) := hD
        exact W.vret hx hb hr (fun t9 ht hW => ⟨⟨(), rfl, trivial, ⟨by rw [ht]; exact hP, va_K.moved hW.alike hK, hD⟩⟩, hS.F ht⟩) hS.2.2 dX13_lays_20 hlocks
      · skip
        have c_1 : ¬ 83 ≤ i := fun h => c_1 ((nI_leI (a := 83) (b := i) (by omega) (by omega)).mpr h)
        refine lv_aload_n hx hb dX13_lays_8 rfl (lv_at hl 0 rfl) ?_
        refine lv_iload_n hx hb dX13_lays_9 rfl (lv_at hl 2 rfl) ?_
        refine lv_aload_n hx hb dX13_lays_10 rfl (lv_at hl 1 rfl) ?_
        refine lv_iload_n hx hb dX13_lays_11 rfl (lv_at hl 2 rfl) ?_
        refine ia_ld hx hb hK hP 1 rfl i (by omega) (by decide) dX13_lays_12 ?_
        refine ia_st hx hb hK hP hD hS 0 rfl i (by omega) (by decide) (bI83 k ta (upd (fil f g i) i (g i)) ++ bI83 k ga g) rfl dX13_lays_13 (fun H locs hP hD hS => ?_)
        refine lv_iinc (v := nI (i + 1)) (lv' := [(2, .int (nI (i + 1))), (0, .ref ta), (1, .ref ga)]) hx hb dX13_lays_14 hl (k := 2) rfl (nI_inc i) (by decide) rfl (fun ls hl => ?_)
        refine lv_goto (tgt := 2) hx hb dX13_lays_17 (by decide) ?_
        have e_2 : (upd (fil f g i) i (g i) : Nat → Int32) = fil f g (i + 1) := by first | (with_reducible rfl) | (exact fil_u f g i)
        have hP := Eq.mp (congrArg (fun z9 => va_P D vwCl (bI83 k ta z9 ++ bI83 k ga g) H) e_2) hP
        have hD := Eq.mp (congrArg (fun z9 => va_D A (bI83 k ta z9 ++ bI83 k ga g)) e_2) hD
        exact ih_2 (i + 1) (by omega) (by omega) ls _ _ hP hD hS (lv_one hl 1 rfl rfl (lv_one hl 2 rfl rfl (lv_one hl 0 rfl rfl (lv_nil hl))))
  refine lv_iconst (v := 0) hx hb dX13_lays_0 (by decide) ?_
  refine lv_istore_n (lv' := [(2, .int 0), (0, .ref ta), (1, .ref ga)]) hx hb dX13_lays_1 rfl hl (by decide) rfl (fun ls hl => ?_)
  have e_3 : (f : Nat → Int32) = fil f g 0 := by first | (with_reducible rfl) | (exact fil_0 f g)
  have hP := Eq.mp (congrArg (fun z9 => va_P D vwCl (bI83 k ta z9 ++ bI83 k ga g) H) e_3) hP
  have hD := Eq.mp (congrArg (fun z9 => va_D A (bI83 k ta z9 ++ bI83 k ga g)) e_3) hD
  exact loop_2 ((83 - 0) + 1) 0 (by omega) (Nat.lt_succ_self _) ls _ _ hP hD hS (lv_one hl 1 rfl rfl (lv_one hl 2 rfl rfl (lv_one hl 0 rfl rfl (lv_nil hl))))

set_option maxHeartbeats 4000000 in
set_option maxRecDepth 100000 in
theorem m_X13_flows (l9 : Launch) (D : va_G) (k : Nat → ClassId) (sz : Nat) (ta ga : Nat) (f g : Nat → UInt32) : Met l9 yX13_flows wsX13_flows ({ frames := 0, cells := 0, slots := 0, locals := 0 }) (WPc D k [.ref ta, .ref ga] (bF10 k ta f ++ bF10 k ga g) sz) (WV D k (bF10 k ta g ++ bF10 k ga g) (va_A (bF10 k ta f ++ bF10 k ga g) sz)) 0 0 (va_A (bF10 k ta f ++ bF10 k ga g) sz) := by
  refine wMet (y := yX13_flows) (cc := cX13_flows) (maxL := 3) (ret := none) (Qc := fun A => WV D k (bF10 k ta g ++ bF10 k ga g) A) [.ref ta, .ref ga] (by decide) rfl (Nat.le_of_ble_eq_true rfl) ?_
  intro p9 e9 s9 m9 bl9 me9 c9 ls A H hF hr hlocks hP hK hN hD hA hS hl hin
  have hl : lv_has ls 3 [(0, .ref ta), (1, .ref ga)] := hl
  obtain ⟨hx, hb, hml, hown, hts⟩ := id hF
  have loop_2 : ∀ (fuel : Nat) (i : Nat), (i ≤ 10) → 10 - i < fuel → ∀ (ls : Array Slot), ∀ (H : Heap) (locs : List Loc), va_P D vwCl (bF10 k ta (fil f g i) ++ bF10 k ga g) H → va_D A (bF10 k ta (fil f g i) ++ bF10 k ga g) → va_S A s9.heap H locs → lv_has ls 3 [(0, .ref ta), (1, .ref ga), (2, .int (nI i))] → W p9 l9 e9 ({ frames := 0, cells := 0, slots := 0, locals := 0 }) s9 m9 ([.ref ta, .ref ga] : List Value).toArray bl9 me9 c9 H locs 0 0 (MQ bl9 (WV D k (bF10 k ta g ++ bF10 k ga g) A) ([.ref ta, .ref ga] : List Value).toArray s9 0 0 A) (F0 m9 2 ls []) := by
    intro fuel
    induction fuel with
    | zero => intro i hi hfuel_2; exact absurd hfuel_2 (Nat.not_lt_zero _)
    | succ fuel ih_2 =>
      intro i hi hfuel_2 ls H locs hP hD hS hl
      refine lv_iload_n hx hb dX13_flows_2 rfl (lv_at hl 2 rfl) ?_
      refine lv_bipush (v := 10) hx hb dX13_flows_3 (by decide) ?_
      refine lv_icmp_ge (tgt := 20) hx hb dX13_flows_5 (by decide) (fun c_1 => ?_) (fun c_1 => ?_)
      · skip
        have c_1 : 10 ≤ i := (nI_leI (a := 10) (b := i) (by omega) (by omega)).mp c_1
        obtain ⟨hP, hD⟩ := ext_f hP hD 0 rfl (g := g) (fun j hj => fil_in (by omega))
        have hP : va_P D vwCl (bF10 k ta g ++ bF10 k ga g) H := hP
        have hD : va_D A (bF10 k ta g ++ bF10 k ga g) := hD
        exact W.vret hx hb hr (fun t9 ht hW => ⟨⟨(), rfl, trivial, ⟨by rw [ht]; exact hP, va_K.moved hW.alike hK, hD⟩⟩, hS.F ht⟩) hS.2.2 dX13_flows_20 hlocks
      · skip
        have c_1 : ¬ 10 ≤ i := fun h => c_1 ((nI_leI (a := 10) (b := i) (by omega) (by omega)).mpr h)
        refine lv_aload_n hx hb dX13_flows_8 rfl (lv_at hl 0 rfl) ?_
        refine lv_iload_n hx hb dX13_flows_9 rfl (lv_at hl 2 rfl) ?_
        refine lv_aload_n hx hb dX13_flows_10 rfl (lv_at hl 1 rfl) ?_
        refine lv_iload_n hx hb dX13_flows_11 rfl (lv_at hl 2 rfl) ?_
        refine fa_ld hx hb hK hP 1 rfl i (by omega) (by decide) dX13_flows_12 ?_
        refine fa_st hx hb hK hP hD hS 0 rfl i (by omega) (by decide) (bF10 k ta (vf_upd (fil f g i) i (g i)) ++ bF10 k ga g) rfl dX13_flows_13 (fun H locs hP hD hS => ?_)
        refine lv_iinc (v := nI (i + 1)) (lv' := [(2, .int (nI (i + 1))), (0, .ref ta), (1, .ref ga)]) hx hb dX13_flows_14 hl (k := 2) rfl (nI_inc i) (by decide) rfl (fun ls hl => ?_)
        refine lv_goto (tgt := 2) hx hb dX13_flows_17 (by decide) ?_
        have e_2 : (vf_upd (fil f g i) i (g i) : Nat → UInt32) = fil f g (i + 1) := by first | (with_reducible rfl) | (exact fil_v f g i)
        have hP := Eq.mp (congrArg (fun z9 => va_P D vwCl (bF10 k ta z9 ++ bF10 k ga g) H) e_2) hP
        have hD := Eq.mp (congrArg (fun z9 => va_D A (bF10 k ta z9 ++ bF10 k ga g)) e_2) hD
        exact ih_2 (i + 1) (by omega) (by omega) ls _ _ hP hD hS (lv_one hl 1 rfl rfl (lv_one hl 2 rfl rfl (lv_one hl 0 rfl rfl (lv_nil hl))))
  refine lv_iconst (v := 0) hx hb dX13_flows_0 (by decide) ?_
  refine lv_istore_n (lv' := [(2, .int 0), (0, .ref ta), (1, .ref ga)]) hx hb dX13_flows_1 rfl hl (by decide) rfl (fun ls hl => ?_)
  have e_3 : (f : Nat → UInt32) = fil f g 0 := by first | (with_reducible rfl) | (exact fil_0 f g)
  have hP := Eq.mp (congrArg (fun z9 => va_P D vwCl (bF10 k ta z9 ++ bF10 k ga g) H) e_3) hP
  have hD := Eq.mp (congrArg (fun z9 => va_D A (bF10 k ta z9 ++ bF10 k ga g)) e_3) hD
  exact loop_2 ((10 - 0) + 1) 0 (by omega) (Nat.lt_succ_self _) ls _ _ hP hD hS (lv_one hl 1 rfl rfl (lv_one hl 2 rfl rfl (lv_one hl 0 rfl rfl (lv_nil hl))))

set_option maxHeartbeats 4000000 in
set_option maxRecDepth 100000 in
theorem m_X13_tells (l9 : Launch) (D : va_G) (k : Nat → ClassId) (sz : Nat) (q : Nat → Nat) (th ea fa : Int32) (ch tn he en ln : Nat) (sv wr dg : Bool) (v : Nat → Int32) (i : Nat) (hi : i < 83) : Met l9 yX13_tells wsX13_tells ({ frames := 0, cells := 0, slots := 0, locals := 0 }) (WPc D k [.ref (q 0), .int (nI i)] (bMO k q th ea fa ch tn he en ln sv wr dg ++ bI83 k (q 1) v) sz) (WI D k (bMO k q 0 ea fa ch tn he en ln sv wr dg ++ bI83 k (q 1) v) (v i) (va_A (bMO k q th ea fa ch tn he en ln sv wr dg ++ bI83 k (q 1) v) sz)) 0 0 (va_A (bMO k q th ea fa ch tn he en ln sv wr dg ++ bI83 k (q 1) v) sz) := by
  refine wMet (y := yX13_tells) (cc := cX13_tells) (maxL := 2) (ret := (some .int)) (Qc := fun A => WI D k (bMO k q 0 ea fa ch tn he en ln sv wr dg ++ bI83 k (q 1) v) (v i) A) [.ref (q 0), .int (nI i)] (by decide) rfl (Nat.le_of_ble_eq_true rfl) ?_
  intro p9 e9 s9 m9 bl9 me9 c9 ls A H hF hr hlocks hP hK hN hD hA hS hl hin
  have hl : lv_has ls 2 [(0, .ref (q 0)), (1, .int (nI i))] := hl
  obtain ⟨hx, hb, hml, hown, hts⟩ := id hF
  have k_fieldLink_77 : (Cond.fieldLink RX13 77 "OpinionReactorModel" "thrown" "I").before _ s9 = true := hts (.fieldLink RX13 77 "OpinionReactorModel" "thrown" "I") (by decide +kernel)
  have kc_RX13 : ∀ w ∈ u_ws RX13 TX13 29, w ∈ wsX13_tells := by decide +kernel
  have k_fieldLink_16 : (Cond.fieldLink RX13 16 "OpinionReactorModel" "v" "[I").before _ s9 = true := hts (.fieldLink RX13 16 "OpinionReactorModel" "v" "[I") (by decide +kernel)
  refine lv_aload_n hx hb dX13_tells_0 rfl (lv_at hl 0 rfl) ?_
  refine lv_iconst (v := 0) hx hb dX13_tells_1 (by decide) ?_
  refine va_put (D := D) (ci := 11) (v := .int 0) (ty := .int) (C := RX13) (T := TX13) (N := 29) hx hb hts kc_RX13 tyX13 tyX13_ok nmX13 hown hK hP hD hS 0 rfl rfl 0 (by decide) k_fieldLink_77 (fun _ h9 => h9) rfl (by decide +kernel) rfl rfl (Nat.le_of_ble_eq_true rfl) dX13_tells_2 (fun H locs hP hD hS => ?_)
  have hP : va_P D vwCl (bMO k q 0 ea fa ch tn he en ln sv wr dg ++ bI83 k (q 1) v) H := hP
  have hD : va_D A (bMO k q 0 ea fa ch tn he en ln sv wr dg ++ bI83 k (q 1) v) := hD
  refine lv_aload_n hx hb dX13_tells_5 rfl (lv_at hl 0 rfl) ?_
  refine va_get (D := D) (ci := 11) (v := .ref (q 1)) (C := RX13) (T := TX13) (N := 29) hx hb hts kc_RX13 hown hK hP 0 rfl rfl 5 (by decide) k_fieldLink_16 (fun _ h9 => h9) rfl dX13_tells_6 ?_
  refine lv_iload_n hx hb dX13_tells_9 rfl (lv_at hl 1 rfl) ?_
  refine ia_ld hx hb hK hP 1 rfl i (by omega) (by decide) dX13_tells_10 ?_
  exact W.iret (v := v i) hx hb hr (fun t9 ht hW => ⟨⟨_, (), rfl, (by rfl), ⟨by rw [ht]; exact hP, va_K.moved hW.alike hK, hD⟩⟩, hS.F ht⟩) hS.2.2 dX13_tells_11 hlocks

set_option maxHeartbeats 4000000 in
set_option maxRecDepth 100000 in
theorem m_X13_looks (l9 : Launch) (D : va_G) (k : Nat → ClassId) (sz : Nat) (q : Nat → Nat) (th ea fa : Int32) (ch tn he en ln : Nat) (sv wr dg : Bool) (v : Nat → Int32) (n : Nat) (x : Int32) (hn : n ≤ 10) (hv0 : v 0 = nI n) : Met l9 yX13_looks wsX13_looks ({ frames := 2, cells := 0, slots := 0, locals := 43 }) (WPc D k [.ref (q 0), .int x] (bMO k q th ea fa ch tn he en ln sv wr dg ++ bI83 k (q 1) v) sz) (WI D k (bMO k q (if inC n x = true then 0 else 1) ea fa ch tn he en ln sv wr dg ++ bI83 k (q 1) v) (bI (inC n x)) (va_A (bMO k q th ea fa ch tn he en ln sv wr dg ++ bI83 k (q 1) v) sz)) 0 0 (va_A (bMO k q th ea fa ch tn he en ln sv wr dg ++ bI83 k (q 1) v) sz) := by
  refine wMet (y := yX13_looks) (cc := cX13_looks) (maxL := 2) (ret := (some .boolean)) (Qc := fun A => WI D k (bMO k q (if inC n x = true then 0 else 1) ea fa ch tn he en ln sv wr dg ++ bI83 k (q 1) v) (bI (inC n x)) A) [.ref (q 0), .int x] (by decide) rfl (Nat.le_of_ble_eq_true rfl) ?_
  intro p9 e9 s9 m9 bl9 me9 c9 ls A H hF hr hlocks hP hK hN hD hA hS hl hin
  have hl : lv_has ls 2 [(0, .ref (q 0)), (1, .int x)] := hl
  obtain ⟨hx, hb, hml, hown, hts⟩ := id hF
  have k_fieldLink_77 : (Cond.fieldLink RX13 77 "OpinionReactorModel" "thrown" "I").before _ s9 = true := hts (.fieldLink RX13 77 "OpinionReactorModel" "thrown" "I") (by decide +kernel)
  have kc_RX13 : ∀ w ∈ u_ws RX13 TX13 29, w ∈ wsX13_looks := by decide +kernel
  refine lv_aload_n hx hb dX13_looks_0 rfl (lv_at hl 0 rfl) ?_
  refine lv_aload_n hx hb dX13_looks_1 rfl (lv_at hl 0 rfl) ?_
  refine lv_iload_n hx hb dX13_looks_2 rfl (lv_at hl 1 rfl) ?_
  refine vp_callSi (W.runV (As := [.int x]) (rest := [.ref (q 0)]) hF (m_X13_isClaim l9 D k q th ea fa ch tn he en ln sv wr dg v n x hn hv0) (cwV 1 hts gX13_looks_X13_isClaim rfl rfl rfl (by decide +kernel) ⟨Nat.le_of_ble_eq_true rfl, Nat.le_of_ble_eq_true rfl⟩) (rPreV hK hN hP [0, 1] rfl 0 11 rfl rfl) rfl rfl hl.1 rfl (lv_room (Nat.le_of_ble_eq_true rfl)) dX13_looks_3 ⟨Nat.zero_le _, Nat.zero_le _⟩) (fun r_1 hr_1 => ?_)
  subst hr_1
  refine lv_if_eq (tgt := 13) hx hb dX13_looks_6 (by decide) (fun c_2 => ?_) (fun c_2 => ?_)
  · skip
    have c_2 : (inC n x) = false := bI_0 c_2
    refine lv_iconst (v := 1) hx hb dX13_looks_13 (by decide) ?_
    refine va_put (D := D) (ci := 11) (v := .int 1) (ty := .int) (C := RX13) (T := TX13) (N := 29) hx hb hts kc_RX13 tyX13 tyX13_ok nmX13 hown hK hP hD hS 0 rfl rfl 0 (by decide) k_fieldLink_77 (fun _ h9 => h9) rfl (by decide +kernel) rfl rfl (Nat.le_of_ble_eq_true rfl) dX13_looks_14 (fun H locs hP hD hS => ?_)
    have hP : va_P D vwCl (bMO k q 1 ea fa ch tn he en ln sv wr dg ++ bI83 k (q 1) v) H := hP
    have hD : va_D A (bMO k q 1 ea fa ch tn he en ln sv wr dg ++ bI83 k (q 1) v) := hD
    refine lv_aload_n hx hb dX13_looks_17 rfl (lv_at hl 0 rfl) ?_
    refine va_get (D := D) (ci := 11) (v := .int 1) (C := RX13) (T := TX13) (N := 29) hx hb hts kc_RX13 hown hK hP 0 rfl rfl 0 (by decide) k_fieldLink_77 (fun _ h9 => h9) rfl dX13_looks_18 ?_
    refine lv_if_ne (tgt := 28) hx hb dX13_looks_21 (by decide) (fun c_3 => ?_) (fun c_3 => ?_)
    · skip
      refine lv_iconst (v := 0) hx hb dX13_looks_28 (by decide) ?_
      have e_4 : (1 : Int32) = (if inC n x = true then 0 else 1) := by first | (with_reducible rfl) | (rw [c_2]; rfl)
      have hP := Eq.mp (congrArg (fun z9 => va_P D vwCl (bMO k q z9 ea fa ch tn he en ln sv wr dg ++ bI83 k (q 1) v) H) e_4) hP
      have hD := Eq.mp (congrArg (fun z9 => va_D A (bMO k q z9 ea fa ch tn he en ln sv wr dg ++ bI83 k (q 1) v)) e_4) hD
      exact W.zret (v := 0) hx hb hr (rfl) (fun t9 ht hW => ⟨⟨_, (), rfl, (by rw [c_2]; rfl), ⟨by rw [ht]; exact hP, va_K.moved hW.alike hK, hD⟩⟩, hS.F ht⟩) hS.2.2 dX13_looks_29 hlocks
    · first | exact absurd c_3 (by decide) | exact absurd (by decide) c_3
  · skip
    have c_2 : (inC n x) = true := bI_1 c_2
    refine lv_iconst (v := 0) hx hb dX13_looks_9 (by decide) ?_
    refine lv_goto (tgt := 14) hx hb dX13_looks_10 (by decide) ?_
    refine va_put (D := D) (ci := 11) (v := .int 0) (ty := .int) (C := RX13) (T := TX13) (N := 29) hx hb hts kc_RX13 tyX13 tyX13_ok nmX13 hown hK hP hD hS 0 rfl rfl 0 (by decide) k_fieldLink_77 (fun _ h9 => h9) rfl (by decide +kernel) rfl rfl (Nat.le_of_ble_eq_true rfl) dX13_looks_14 (fun H locs hP hD hS => ?_)
    have hP : va_P D vwCl (bMO k q 0 ea fa ch tn he en ln sv wr dg ++ bI83 k (q 1) v) H := hP
    have hD : va_D A (bMO k q 0 ea fa ch tn he en ln sv wr dg ++ bI83 k (q 1) v) := hD
    refine lv_aload_n hx hb dX13_looks_17 rfl (lv_at hl 0 rfl) ?_
    refine va_get (D := D) (ci := 11) (v := .int 0) (C := RX13) (T := TX13) (N := 29) hx hb hts kc_RX13 hown hK hP 0 rfl rfl 0 (by decide) k_fieldLink_77 (fun _ h9 => h9) rfl dX13_looks_18 ?_
    refine lv_if_ne (tgt := 28) hx hb dX13_looks_21 (by decide) (fun c_5 => ?_) (fun c_5 => ?_)
    · first | exact absurd c_5 (by decide) | exact absurd (by decide) c_5
    · skip
      refine lv_iconst (v := 1) hx hb dX13_looks_24 (by decide) ?_
      refine lv_goto (tgt := 29) hx hb dX13_looks_25 (by decide) ?_
      have e_6 : (0 : Int32) = (if inC n x = true then 0 else 1) := by first | (with_reducible rfl) | (rw [c_2]; rfl)
      have hP := Eq.mp (congrArg (fun z9 => va_P D vwCl (bMO k q z9 ea fa ch tn he en ln sv wr dg ++ bI83 k (q 1) v) H) e_6) hP
      have hD := Eq.mp (congrArg (fun z9 => va_D A (bMO k q z9 ea fa ch tn he en ln sv wr dg ++ bI83 k (q 1) v)) e_6) hD
      exact W.zret (v := 1) hx hb hr (rfl) (fun t9 ht hW => ⟨⟨_, (), rfl, (by rw [c_2]; rfl), ⟨by rw [ht]; exact hP, va_K.moved hW.alike hK, hD⟩⟩, hS.F ht⟩) hS.2.2 dX13_looks_29 hlocks

set_option maxHeartbeats 4000000 in
set_option maxRecDepth 100000 in
theorem m_X13_begins (l9 : Launch) (D : va_G) (k : Nat → ClassId) (sz : Nat) (q : Nat → Nat) (th ea fa : Int32) (ch tn he en ln : Nat) (sv wr dg : Bool) (v be : Nat → Int32) (fl fb : Nat → UInt32) : Met l9 yX13_begins wsX13_begins ({ frames := 1, cells := 0, slots := 0, locals := 22 }) (WPc D k [.ref (q 0)] (bMO k q th ea fa ch tn he en ln sv wr dg ++ bI83 k (q 1) v ++ bI83 k (q 2) be ++ bF10 k (q 6) fl ++ bF10 k (q 7) fb) sz) (WV D k (bMO k q 0 ea fa ch tn he en ln sv wr dg ++ bI83 k (q 1) v ++ bI83 k (q 2) v ++ bF10 k (q 6) fl ++ bF10 k (q 7) fl) (va_A (bMO k q th ea fa ch tn he en ln sv wr dg ++ bI83 k (q 1) v ++ bI83 k (q 2) be ++ bF10 k (q 6) fl ++ bF10 k (q 7) fb) sz)) 0 0 (va_A (bMO k q th ea fa ch tn he en ln sv wr dg ++ bI83 k (q 1) v ++ bI83 k (q 2) be ++ bF10 k (q 6) fl ++ bF10 k (q 7) fb) sz) := by
  refine wMet (y := yX13_begins) (cc := cX13_begins) (maxL := 1) (ret := none) (Qc := fun A => WV D k (bMO k q 0 ea fa ch tn he en ln sv wr dg ++ bI83 k (q 1) v ++ bI83 k (q 2) v ++ bF10 k (q 6) fl ++ bF10 k (q 7) fl) A) [.ref (q 0)] (by decide) rfl (Nat.le_of_ble_eq_true rfl) ?_
  intro p9 e9 s9 m9 bl9 me9 c9 ls A H hF hr hlocks hP hK hN hD hA hS hl hin
  have hl : lv_has ls 1 [(0, .ref (q 0))] := hl
  obtain ⟨hx, hb, hml, hown, hts⟩ := id hF
  have k_fieldLink_77 : (Cond.fieldLink RX13 77 "OpinionReactorModel" "thrown" "I").before _ s9 = true := hts (.fieldLink RX13 77 "OpinionReactorModel" "thrown" "I") (by decide +kernel)
  have kc_RX13 : ∀ w ∈ u_ws RX13 TX13 29, w ∈ wsX13_begins := by decide +kernel
  have k_fieldLink_20 : (Cond.fieldLink RX13 20 "OpinionReactorModel" "before" "[I").before _ s9 = true := hts (.fieldLink RX13 20 "OpinionReactorModel" "before" "[I") (by decide +kernel)
  have k_fieldLink_16 : (Cond.fieldLink RX13 16 "OpinionReactorModel" "v" "[I").before _ s9 = true := hts (.fieldLink RX13 16 "OpinionReactorModel" "v" "[I") (by decide +kernel)
  have k_fieldLink_36 : (Cond.fieldLink RX13 36 "OpinionReactorModel" "fluxBefore" "[F").before _ s9 = true := hts (.fieldLink RX13 36 "OpinionReactorModel" "fluxBefore" "[F") (by decide +kernel)
  have k_fieldLink_32 : (Cond.fieldLink RX13 32 "OpinionReactorModel" "flux" "[F").before _ s9 = true := hts (.fieldLink RX13 32 "OpinionReactorModel" "flux" "[F") (by decide +kernel)
  refine lv_aload_n hx hb dX13_begins_0 rfl (lv_at hl 0 rfl) ?_
  refine lv_iconst (v := 0) hx hb dX13_begins_1 (by decide) ?_
  refine va_put (D := D) (ci := 11) (v := .int 0) (ty := .int) (C := RX13) (T := TX13) (N := 29) hx hb hts kc_RX13 tyX13 tyX13_ok nmX13 hown hK hP hD hS 0 rfl rfl 0 (by decide) k_fieldLink_77 (fun _ h9 => h9) rfl (by decide +kernel) rfl rfl (Nat.le_of_ble_eq_true rfl) dX13_begins_2 (fun H locs hP hD hS => ?_)
  have hP : va_P D vwCl (bMO k q 0 ea fa ch tn he en ln sv wr dg ++ bI83 k (q 1) v ++ bI83 k (q 2) be ++ bF10 k (q 6) fl ++ bF10 k (q 7) fb) H := hP
  have hD : va_D A (bMO k q 0 ea fa ch tn he en ln sv wr dg ++ bI83 k (q 1) v ++ bI83 k (q 2) be ++ bF10 k (q 6) fl ++ bF10 k (q 7) fb) := hD
  refine lv_aload_n hx hb dX13_begins_5 rfl (lv_at hl 0 rfl) ?_
  refine va_get (D := D) (ci := 11) (v := .ref (q 2)) (C := RX13) (T := TX13) (N := 29) hx hb hts kc_RX13 hown hK hP 0 rfl rfl 6 (by decide) k_fieldLink_20 (fun _ h9 => h9) rfl dX13_begins_6 ?_
  refine lv_aload_n hx hb dX13_begins_9 rfl (lv_at hl 0 rfl) ?_
  refine va_get (D := D) (ci := 11) (v := .ref (q 1)) (C := RX13) (T := TX13) (N := 29) hx hb hts kc_RX13 hown hK hP 0 rfl rfl 5 (by decide) k_fieldLink_16 (fun _ h9 => h9) rfl dX13_begins_10 ?_
  have hFc := va_free (wc := bI83 k (q 2) be ++ bI83 k (q 1) v) hD hS hA [2, 1] rfl
  refine va_callv (va_runS (As := [.ref (q 2), .ref (q 1)]) (rest := []) hF (m_X13_lays l9 D k H.size (q 2) (q 1) be v ) (va_cwS 2 hts gX13_begins_X13_lays rfl rfl rfl (by decide +kernel) ⟨Nat.le_of_ble_eq_true rfl, Nat.le_of_ble_eq_true rfl⟩) (wPreS hK hN hP hD [2, 1] rfl (by decide) rfl) rfl rfl hl.1 rfl (lv_room (Nat.le_of_ble_eq_true rfl)) dX13_begins_13 ⟨Nat.zero_le _, Nat.zero_le _⟩) hS (fun q _ h => hFc q h) hFc (fun u9 t9 H1 locs ht hvm hw hB hz1 hk1 hS => ?_)
  obtain ⟨hP, hD⟩ := wjoin (wr := bMO k q 0 ea fa ch tn he en ln sv wr dg ++ bF10 k (q 6) fl ++ bF10 k (q 7) fb) (wf := bMO k q 0 ea fa ch tn he en ln sv wr dg ++ bI83 k (q 1) v ++ bI83 k (q 2) v ++ bF10 k (q 6) fl ++ bF10 k (q 7) fb) hP hD [2, 1] [0, 3, 4] [0, 4, 3, 1, 2] rfl rfl (by decide) (by decide) hk1 hFc hB ht rfl rfl (by decide)
  clear hB hk1 hz1 hvm hFc
  clear ht
  clear t9
  generalize H1 = H at hP hS ⊢
  refine lv_aload_n hx hb dX13_begins_16 rfl (lv_at hl 0 rfl) ?_
  refine va_get (D := D) (ci := 11) (v := .ref (q 7)) (C := RX13) (T := TX13) (N := 29) hx hb hts kc_RX13 hown hK hP 0 rfl rfl 11 (by decide) k_fieldLink_36 (fun _ h9 => h9) rfl dX13_begins_17 ?_
  refine lv_aload_n hx hb dX13_begins_20 rfl (lv_at hl 0 rfl) ?_
  refine va_get (D := D) (ci := 11) (v := .ref (q 6)) (C := RX13) (T := TX13) (N := 29) hx hb hts kc_RX13 hown hK hP 0 rfl rfl 10 (by decide) k_fieldLink_32 (fun _ h9 => h9) rfl dX13_begins_21 ?_
  have hFc := va_free (wc := bF10 k (q 7) fb ++ bF10 k (q 6) fl) hD hS hA [4, 3] rfl
  refine va_callv (va_runS (As := [.ref (q 7), .ref (q 6)]) (rest := []) hF (m_X13_flows l9 D k H.size (q 7) (q 6) fb fl ) (va_cwS 2 hts gX13_begins_X13_flows rfl rfl rfl (by decide +kernel) ⟨Nat.le_of_ble_eq_true rfl, Nat.le_of_ble_eq_true rfl⟩) (wPreS hK hN hP hD [4, 3] rfl (by decide) rfl) rfl rfl hl.1 rfl (lv_room (Nat.le_of_ble_eq_true rfl)) dX13_begins_24 ⟨Nat.zero_le _, Nat.zero_le _⟩) hS (fun q _ h => hFc q h) hFc (fun u9 t9 H1 locs ht hvm hw hB hz1 hk1 hS => ?_)
  obtain ⟨hP, hD⟩ := wjoin (wr := bMO k q 0 ea fa ch tn he en ln sv wr dg ++ bI83 k (q 1) v ++ bI83 k (q 2) v) (wf := bMO k q 0 ea fa ch tn he en ln sv wr dg ++ bI83 k (q 1) v ++ bI83 k (q 2) v ++ bF10 k (q 6) fl ++ bF10 k (q 7) fl) hP hD [4, 3] [0, 1, 2] [0, 1, 2, 4, 3] rfl rfl (by decide) (by decide) hk1 hFc hB ht rfl rfl (by decide)
  clear hB hk1 hz1 hvm hFc
  clear ht
  clear t9
  generalize H1 = H at hP hS ⊢
  exact W.vret hx hb hr (fun t9 ht hW => ⟨⟨(), rfl, trivial, ⟨by rw [ht]; exact hP, va_K.moved hW.alike hK, hD⟩⟩, hS.F ht⟩) hS.2.2 dX13_begins_27 hlocks

set_option maxHeartbeats 4000000 in
set_option maxRecDepth 100000 in
theorem m_X13_isLayer (l9 : Launch) (D : va_G) (k : Nat → ClassId) (x : Int32) : Met l9 yX13_isLayer wsX13_isLayer ({ frames := 1, cells := 0, slots := 0, locals := 22 }) (RPc D k [.int x] ([])) (EI (bI (rg 0 x 3))) 0 0 noA := by
  refine rMet (y := yX13_isLayer) (cc := cX13_isLayer) (maxL := 1) (ret := (some .boolean)) [.int x] (by decide) rfl (Nat.le_of_ble_eq_true rfl) ?_
  intro p9 e9 s9 m9 bl9 me9 c9 ls hF hr hlocks hP hK hN hl
  have hl : lv_has ls 1 [(0, .int x)] := hl
  obtain ⟨hx, hb, hml, hown, hts⟩ := id hF
  refine lv_iload_n hx hb dX13_isLayer_0 rfl (lv_at hl 0 rfl) ?_
  refine lv_iconst (v := 0) hx hb dX13_isLayer_1 (by decide) ?_
  refine lv_iconst (v := 3) hx hb dX13_isLayer_2 (by decide) ?_
  refine vp_callSi (W.runS (As := [.int x, .int 0, .int 3]) (rest := []) hF (m_X13_isIn l9 D k x 0 3 ) (va_cwS 3 hts gX13_isLayer_X13_isIn rfl rfl rfl (by decide +kernel) ⟨Nat.le_of_ble_eq_true rfl, Nat.le_of_ble_eq_true rfl⟩) (rPreS hK hN hP [] rfl) rfl rfl hl.1 rfl (lv_room (Nat.le_of_ble_eq_true rfl)) dX13_isLayer_3 ⟨Nat.zero_le _, Nat.zero_le _⟩) (fun r_1 hr_1 => ?_)
  subst hr_1
  exact W.zret (v := bI (rg 0 x 3)) hx hb hr (bI_nar _) (fun t9 ht hW => ⟨_, rfl, (by rfl), ht⟩) (fun _ h => by cases h) dX13_isLayer_6 hlocks

set_option maxHeartbeats 4000000 in
set_option maxRecDepth 100000 in
theorem m_X13_depth (l9 : Launch) (D : va_G) (k : Nat → ClassId) (q : Nat → Nat) (th ea fa : Int32) (ch tn he en ln : Nat) (sv wr dg : Bool) (v : Nat → Int32) (l : Nat) (hlr : l < 4) : Met l9 yX13_depth wsX13_depth ({ frames := 1, cells := 0, slots := 0, locals := 21 }) (RPc D k [.ref (q 0), .int (nI l)] (bMO k q th ea fa ch tn he en ln sv wr dg ++ bI83 k (q 1) v)) (EI (dpM v l)) 0 0 noA := by
  refine rMet (y := yX13_depth) (cc := cX13_depth) (maxL := 4) (ret := (some .int)) [.ref (q 0), .int (nI l)] (by decide) rfl (Nat.le_of_ble_eq_true rfl) ?_
  intro p9 e9 s9 m9 bl9 me9 c9 ls hF hr hlocks hP hK hN hl
  have hl : lv_has ls 4 [(0, .ref (q 0)), (1, .int (nI l))] := hl
  obtain ⟨hx, hb, hml, hown, hts⟩ := id hF
  have k_fieldLink_16 : (Cond.fieldLink RX13 16 "OpinionReactorModel" "v" "[I").before _ s9 = true := hts (.fieldLink RX13 16 "OpinionReactorModel" "v" "[I") (by decide +kernel)
  have kc_RX13 : ∀ w ∈ u_ws RX13 TX13 29, w ∈ wsX13_depth := by decide +kernel
  have loop_4 : ∀ (fuel : Nat) (i : Nat), (i ≤ 3) → 3 - i < fuel → ∀ (ls : Array Slot), lv_has ls 4 [(0, .ref (q 0)), (1, .int (nI l)), (2, .int (dpmM v l i)), (3, .int (nI (i + 1)))] → W p9 l9 e9 ({ frames := 1, cells := 0, slots := 0, locals := 21 }) s9 m9 ([.ref (q 0), .int (nI l)] : List Value).toArray bl9 me9 c9 s9.heap [] 0 0 (MQ bl9 (EI (dpM v l)) ([.ref (q 0), .int (nI l)] : List Value).toArray s9 0 0 noA) (F0 m9 4 ls []) := by
    intro fuel
    induction fuel with
    | zero => intro i hi hfuel_4; exact absurd hfuel_4 (Nat.not_lt_zero _)
    | succ fuel ih_4 =>
      intro i hi hfuel_4 ls hl
      refine lv_iload_n hx hb dX13_depth_4 rfl (lv_at hl 3 rfl) ?_
      refine lv_iconst (v := 3) hx hb dX13_depth_5 (by decide) ?_
      refine lv_icmp_gt (tgt := 57) hx hb dX13_depth_6 (by decide) (fun c_1 => ?_) (fun c_1 => ?_)
      · skip
        have c_1 : 3 < (i + 1) := (nI_ltI (a := 3) (b := i + 1) (by omega) (by omega)).mp c_1
        refine lv_iload_n hx hb dX13_depth_57 rfl (lv_at hl 2 rfl) ?_
        exact W.iret (v := dpmM v l i) hx hb hr (fun t9 ht hW => ⟨_, rfl, (by rw [show i = 3 by omega]; rfl), ht⟩) (fun _ h => by cases h) dX13_depth_58 hlocks
      · skip
        have c_1 : ¬ 3 < (i + 1) := fun h => c_1 ((nI_ltI (a := 3) (b := i + 1) (by omega) (by omega)).mpr h)
        refine lv_iload_n hx hb dX13_depth_9 rfl (lv_at hl 2 rfl) ?_
        refine lv_aload_n hx hb dX13_depth_10 rfl (lv_at hl 0 rfl) ?_
        refine va_get (D := D) (ci := 11) (v := .ref (q 1)) (C := RX13) (T := TX13) (N := 29) hx hb hts kc_RX13 hown hK hP 0 rfl rfl 5 (by decide) k_fieldLink_16 (fun _ h9 => h9) rfl dX13_depth_11 ?_
        refine lv_iload_n hx hb dX13_depth_14 rfl (lv_at hl 1 rfl) ?_
        refine lv_iload_n hx hb dX13_depth_15 rfl (lv_at hl 3 rfl) ?_
        refine vp_callSi (W.runS (As := [.int (nI l), .int (nI (i + 1))]) (rest := [.ref (q 1), .int (dpmM v l i)]) hF (m_X13_rackAt l9 D k l (i + 1) ) (va_cwS 2 hts gX13_depth_X13_rackAt rfl rfl rfl (by decide +kernel) ⟨Nat.le_of_ble_eq_true rfl, Nat.le_of_ble_eq_true rfl⟩) (rPreS hK hN hP [] rfl) rfl rfl hl.1 rfl (lv_room (Nat.le_of_ble_eq_true rfl)) dX13_depth_16 ⟨Nat.zero_le _, Nat.zero_le _⟩) (fun r_2 hr_2 => ?_)
        subst hr_2
        refine ia_ld hx hb hK hP 1 rfl (35 + 4 * l + (i + 1)) (by omega) (by decide) dX13_depth_19 ?_
        refine lv_bipush (v := 113) hx hb dX13_depth_20 (by decide) ?_
        refine lv_icmp_ne (tgt := 29) hx hb dX13_depth_22 (by decide) (fun c_3 => ?_) (fun c_3 => ?_)
        · skip
          refine lv_aload_n hx hb dX13_depth_29 rfl (lv_at hl 0 rfl) ?_
          refine va_get (D := D) (ci := 11) (v := .ref (q 1)) (C := RX13) (T := TX13) (N := 29) hx hb hts kc_RX13 hown hK hP 0 rfl rfl 5 (by decide) k_fieldLink_16 (fun _ h9 => h9) rfl dX13_depth_30 ?_
          refine lv_iload_n hx hb dX13_depth_33 rfl (lv_at hl 1 rfl) ?_
          refine lv_iload_n hx hb dX13_depth_34 rfl (lv_at hl 3 rfl) ?_
          refine vp_callSi (W.runS (As := [.int (nI l), .int (nI (i + 1))]) (rest := [.ref (q 1), .int (dpmM v l i)]) hF (m_X13_rackAt l9 D k l (i + 1) ) (va_cwS 2 hts gX13_depth_X13_rackAt rfl rfl rfl (by decide +kernel) ⟨Nat.le_of_ble_eq_true rfl, Nat.le_of_ble_eq_true rfl⟩) (rPreS hK hN hP [] rfl) rfl rfl hl.1 rfl (lv_room (Nat.le_of_ble_eq_true rfl)) dX13_depth_35 ⟨Nat.zero_le _, Nat.zero_le _⟩) (fun r_4 hr_4 => ?_)
          subst hr_4
          refine ia_ld hx hb hK hP 1 rfl (35 + 4 * l + (i + 1)) (by omega) (by decide) dX13_depth_38 ?_
          refine lv_bipush (v := 111) hx hb dX13_depth_39 (by decide) ?_
          refine lv_icmp_ne (tgt := 48) hx hb dX13_depth_41 (by decide) (fun c_5 => ?_) (fun c_5 => ?_)
          · skip
            refine lv_iconst (v := 0) hx hb dX13_depth_48 (by decide) ?_
            refine lv_iadd hx hb dX13_depth_49 ?_
            refine lv_istore_n (lv' := [(2, .int ((dpmM v l i) + 0)), (0, .ref (q 0)), (1, .int (nI l)), (3, .int (nI (i + 1)))]) hx hb dX13_depth_50 rfl hl (by decide) rfl (fun ls hl => ?_)
            refine lv_iinc (v := nI ((i + 1) + 1)) (lv' := [(3, .int (nI ((i + 1) + 1))), (2, .int ((dpmM v l i) + 0)), (0, .ref (q 0)), (1, .int (nI l))]) hx hb dX13_depth_51 hl (k := 3) rfl (nI_inc (i + 1)) (by decide) rfl (fun ls hl => ?_)
            refine lv_goto (tgt := 4) hx hb dX13_depth_54 (by decide) ?_
            have e_6 : ((dpmM v l i) + 0 : Int32) = dpmM v l (i + 1) := by first | (with_reducible rfl) | (rw [dpmM_s]; simp_all [stM, rkS])
            exact ih_4 (i + 1) (by omega) (by omega) ls (lv_one hl 2 rfl rfl (lv_one hl 3 rfl rfl (lv_one hl 1 rfl (congrArg Value.int e_6) (lv_one hl 0 rfl rfl (lv_nil hl)))))
          · skip
            refine lv_iconst (v := 3) hx hb dX13_depth_44 (by decide) ?_
            refine lv_goto (tgt := 49) hx hb dX13_depth_45 (by decide) ?_
            refine lv_iadd hx hb dX13_depth_49 ?_
            refine lv_istore_n (lv' := [(2, .int ((dpmM v l i) + 3)), (0, .ref (q 0)), (1, .int (nI l)), (3, .int (nI (i + 1)))]) hx hb dX13_depth_50 rfl hl (by decide) rfl (fun ls hl => ?_)
            refine lv_iinc (v := nI ((i + 1) + 1)) (lv' := [(3, .int (nI ((i + 1) + 1))), (2, .int ((dpmM v l i) + 3)), (0, .ref (q 0)), (1, .int (nI l))]) hx hb dX13_depth_51 hl (k := 3) rfl (nI_inc (i + 1)) (by decide) rfl (fun ls hl => ?_)
            refine lv_goto (tgt := 4) hx hb dX13_depth_54 (by decide) ?_
            have e_7 : ((dpmM v l i) + 3 : Int32) = dpmM v l (i + 1) := by first | (with_reducible rfl) | (rw [dpmM_s]; simp_all [stM, rkS])
            exact ih_4 (i + 1) (by omega) (by omega) ls (lv_one hl 2 rfl rfl (lv_one hl 3 rfl rfl (lv_one hl 1 rfl (congrArg Value.int e_7) (lv_one hl 0 rfl rfl (lv_nil hl)))))
        · skip
          refine lv_iconst (v := 2) hx hb dX13_depth_25 (by decide) ?_
          refine lv_goto (tgt := 49) hx hb dX13_depth_26 (by decide) ?_
          refine lv_iadd hx hb dX13_depth_49 ?_
          refine lv_istore_n (lv' := [(2, .int ((dpmM v l i) + 2)), (0, .ref (q 0)), (1, .int (nI l)), (3, .int (nI (i + 1)))]) hx hb dX13_depth_50 rfl hl (by decide) rfl (fun ls hl => ?_)
          refine lv_iinc (v := nI ((i + 1) + 1)) (lv' := [(3, .int (nI ((i + 1) + 1))), (2, .int ((dpmM v l i) + 2)), (0, .ref (q 0)), (1, .int (nI l))]) hx hb dX13_depth_51 hl (k := 3) rfl (nI_inc (i + 1)) (by decide) rfl (fun ls hl => ?_)
          refine lv_goto (tgt := 4) hx hb dX13_depth_54 (by decide) ?_
          have e_8 : ((dpmM v l i) + 2 : Int32) = dpmM v l (i + 1) := by first | (with_reducible rfl) | (rw [dpmM_s]; simp_all [stM, rkS])
          exact ih_4 (i + 1) (by omega) (by omega) ls (lv_one hl 2 rfl rfl (lv_one hl 3 rfl rfl (lv_one hl 1 rfl (congrArg Value.int e_8) (lv_one hl 0 rfl rfl (lv_nil hl)))))
  refine lv_iconst (v := 0) hx hb dX13_depth_0 (by decide) ?_
  refine lv_istore_n (lv' := [(2, .int 0), (0, .ref (q 0)), (1, .int (nI l))]) hx hb dX13_depth_1 rfl hl (by decide) rfl (fun ls hl => ?_)
  refine lv_iconst (v := 1) hx hb dX13_depth_2 (by decide) ?_
  refine lv_istore_n (lv' := [(3, .int 1), (2, .int 0), (0, .ref (q 0)), (1, .int (nI l))]) hx hb dX13_depth_3 rfl hl (by decide) rfl (fun ls hl => ?_)
  have e_9 : (0 : Int32) = dpmM v l 0 := by first | (with_reducible rfl) | (rfl)
  have e_10 : (1 : Int32) = nI (0 + 1) := by first | (with_reducible rfl) | (rfl)
  exact loop_4 ((3 - 0) + 1) 0 (by omega) (Nat.lt_succ_self _) ls (lv_one hl 2 rfl rfl (lv_one hl 3 rfl rfl (lv_one hl 1 rfl (congrArg Value.int e_9) (lv_one hl 0 rfl (congrArg Value.int e_10) (lv_nil hl)))))

set_option maxHeartbeats 4000000 in
set_option maxRecDepth 100000 in
theorem m_X13_canHold (l9 : Launch) (D : va_G) (k : Nat → ClassId) (q : Nat → Nat) (th ea fa : Int32) (ch tn he en ln : Nat) (sv wr dg : Bool) (v : Nat → Int32) (l : Nat) (z : Int32) (hlr : l < 4) : Met l9 yX13_canHold wsX13_canHold ({ frames := 1, cells := 0, slots := 0, locals := 21 }) (RPc D k [.ref (q 0), .int (nI l), .int z] (bMO k q th ea fa ch tn he en ln sv wr dg ++ bI83 k (q 1) v)) (EI (bI (chM v l z))) 0 0 noA := by
  refine rMet (y := yX13_canHold) (cc := cX13_canHold) (maxL := 3) (ret := (some .boolean)) [.ref (q 0), .int (nI l), .int z] (by decide) rfl (Nat.le_of_ble_eq_true rfl) ?_
  intro p9 e9 s9 m9 bl9 me9 c9 ls hF hr hlocks hP hK hN hl
  have hl : lv_has ls 3 [(0, .ref (q 0)), (1, .int (nI l)), (2, .int z)] := hl
  obtain ⟨hx, hb, hml, hown, hts⟩ := id hF
  have k_fieldLink_16 : (Cond.fieldLink RX13 16 "OpinionReactorModel" "v" "[I").before _ s9 = true := hts (.fieldLink RX13 16 "OpinionReactorModel" "v" "[I") (by decide +kernel)
  have kc_RX13 : ∀ w ∈ u_ws RX13 TX13 29, w ∈ wsX13_canHold := by decide +kernel
  refine lv_aload_n hx hb dX13_canHold_0 rfl (lv_at hl 0 rfl) ?_
  refine va_get (D := D) (ci := 11) (v := .ref (q 1)) (C := RX13) (T := TX13) (N := 29) hx hb hts kc_RX13 hown hK hP 0 rfl rfl 5 (by decide) k_fieldLink_16 (fun _ h9 => h9) rfl dX13_canHold_1 ?_
  refine lv_iload_n hx hb dX13_canHold_4 rfl (lv_at hl 1 rfl) ?_
  refine lv_iconst (v := 0) hx hb dX13_canHold_5 (by decide) ?_
  refine vp_callSi (W.runS (As := [.int (nI l), .int 0]) (rest := [.ref (q 1)]) hF (m_X13_rackAt l9 D k l 0 ) (va_cwS 2 hts gX13_canHold_X13_rackAt rfl rfl rfl (by decide +kernel) ⟨Nat.le_of_ble_eq_true rfl, Nat.le_of_ble_eq_true rfl⟩) (rPreS hK hN hP [] rfl) rfl rfl hl.1 rfl (lv_room (Nat.le_of_ble_eq_true rfl)) dX13_canHold_6 ⟨Nat.zero_le _, Nat.zero_le _⟩) (fun r_1 hr_1 => ?_)
  subst hr_1
  refine ia_ld hx hb hK hP 1 rfl (35 + 4 * l + 0) (by omega) (by decide) dX13_canHold_9 ?_
  refine lv_bipush (v := 97) hx hb dX13_canHold_10 (by decide) ?_
  refine lv_icmp_eq (tgt := 29) hx hb dX13_canHold_12 (by decide) (fun c_2 => ?_) (fun c_2 => ?_)
  · skip
    refine lv_iconst (v := 1) hx hb dX13_canHold_29 (by decide) ?_
    refine lv_goto (tgt := 34) hx hb dX13_canHold_30 (by decide) ?_
    exact W.zret (v := 1) hx hb hr (rfl) (fun t9 ht hW => ⟨_, rfl, (by simp_all [chM, rkS, bI]), ht⟩) (fun _ h => by cases h) dX13_canHold_34 hlocks
  · skip
    refine lv_aload_n hx hb dX13_canHold_15 rfl (lv_at hl 0 rfl) ?_
    refine va_get (D := D) (ci := 11) (v := .ref (q 1)) (C := RX13) (T := TX13) (N := 29) hx hb hts kc_RX13 hown hK hP 0 rfl rfl 5 (by decide) k_fieldLink_16 (fun _ h9 => h9) rfl dX13_canHold_16 ?_
    refine lv_iload_n hx hb dX13_canHold_19 rfl (lv_at hl 1 rfl) ?_
    refine lv_iconst (v := 0) hx hb dX13_canHold_20 (by decide) ?_
    refine vp_callSi (W.runS (As := [.int (nI l), .int 0]) (rest := [.ref (q 1)]) hF (m_X13_rackAt l9 D k l 0 ) (va_cwS 2 hts gX13_canHold_X13_rackAt rfl rfl rfl (by decide +kernel) ⟨Nat.le_of_ble_eq_true rfl, Nat.le_of_ble_eq_true rfl⟩) (rPreS hK hN hP [] rfl) rfl rfl hl.1 rfl (lv_room (Nat.le_of_ble_eq_true rfl)) dX13_canHold_21 ⟨Nat.zero_le _, Nat.zero_le _⟩) (fun r_3 hr_3 => ?_)
    subst hr_3
    refine ia_ld hx hb hK hP 1 rfl (35 + 4 * l + 0) (by omega) (by decide) dX13_canHold_24 ?_
    refine lv_iload_n hx hb dX13_canHold_25 rfl (lv_at hl 2 rfl) ?_
    refine lv_icmp_ne (tgt := 33) hx hb dX13_canHold_26 (by decide) (fun c_4 => ?_) (fun c_4 => ?_)
    · skip
      refine lv_iconst (v := 0) hx hb dX13_canHold_33 (by decide) ?_
      exact W.zret (v := 0) hx hb hr (rfl) (fun t9 ht hW => ⟨_, rfl, (by simp_all [chM, rkS, bI]), ht⟩) (fun _ h => by cases h) dX13_canHold_34 hlocks
    · skip
      refine lv_iconst (v := 1) hx hb dX13_canHold_29 (by decide) ?_
      refine lv_goto (tgt := 34) hx hb dX13_canHold_30 (by decide) ?_
      exact W.zret (v := 1) hx hb hr (rfl) (fun t9 ht hW => ⟨_, rfl, (by simp_all [chM, rkS, bI]), ht⟩) (fun _ h => by cases h) dX13_canHold_34 hlocks

set_option maxHeartbeats 4000000 in
set_option maxRecDepth 100000 in
theorem m_X13_logs (l9 : Launch) (D : va_G) (k : Nat → ClassId) (sz : Nat) (q : Nat → Nat) (th ea fa : Int32) (ch tn he en ln : Nat) (sv wr dg : Bool) (v : Nat → Int32) (n : Nat) (z : Int32) (hn16 : n ≤ 16) (hv4 : v 4 = nI n) : Met l9 yX13_logs wsX13_logs ({ frames := 0, cells := 0, slots := 0, locals := 0 }) (WPc D k [.ref (q 0), .int z] (bMO k q th ea fa ch tn he en ln sv wr dg ++ bI83 k (q 1) v) sz) (WV D k (bMO k q th ea fa ch tn he en ln sv wr dg ++ bI83 k (q 1) (lgS v n z)) (va_A (bMO k q th ea fa ch tn he en ln sv wr dg ++ bI83 k (q 1) v) sz)) 0 0 (va_A (bMO k q th ea fa ch tn he en ln sv wr dg ++ bI83 k (q 1) v) sz) := by
  refine wMet (y := yX13_logs) (cc := cX13_logs) (maxL := 3) (ret := none) (Qc := fun A => WV D k (bMO k q th ea fa ch tn he en ln sv wr dg ++ bI83 k (q 1) (lgS v n z)) A) [.ref (q 0), .int z] (by decide) rfl (Nat.le_of_ble_eq_true rfl) ?_
  intro p9 e9 s9 m9 bl9 me9 c9 ls A H hF hr hlocks hP hK hN hD hA hS hl hin
  have hl : lv_has ls 3 [(0, .ref (q 0)), (1, .int z)] := hl
  obtain ⟨hx, hb, hml, hown, hts⟩ := id hF
  have k_fieldLink_16 : (Cond.fieldLink RX13 16 "OpinionReactorModel" "v" "[I").before _ s9 = true := hts (.fieldLink RX13 16 "OpinionReactorModel" "v" "[I") (by decide +kernel)
  have kc_RX13 : ∀ w ∈ u_ws RX13 TX13 29, w ∈ wsX13_logs := by decide +kernel
  have loop_14 : ∀ (fuel : Nat) (i : Nat), (i ≤ 30) → (n = 16) → 30 - i < fuel → ∀ (ls : Array Slot), ∀ (H : Heap) (locs : List Loc), va_P D vwCl (bMO k q th ea fa ch tn he en ln sv wr dg ++ bI83 k (q 1) (lgm v i)) H → va_D A (bMO k q th ea fa ch tn he en ln sv wr dg ++ bI83 k (q 1) (lgm v i)) → va_S A s9.heap H locs → lv_has ls 3 [(0, .ref (q 0)), (1, .int z), (2, .int (nI (51 + i)))] → W p9 l9 e9 ({ frames := 0, cells := 0, slots := 0, locals := 0 }) s9 m9 ([.ref (q 0), .int z] : List Value).toArray bl9 me9 c9 H locs 0 0 (MQ bl9 (WV D k (bMO k q th ea fa ch tn he en ln sv wr dg ++ bI83 k (q 1) (lgS v n z)) A) ([.ref (q 0), .int z] : List Value).toArray s9 0 0 A) (F0 m9 14 ls []) := by
    intro fuel
    induction fuel with
    | zero => intro i hi h16 hfuel_14; exact absurd hfuel_14 (Nat.not_lt_zero _)
    | succ fuel ih_14 =>
      intro i hi h16 hfuel_14 ls H locs hP hD hS hl
      refine lv_iload_n hx hb dX13_logs_14 rfl (lv_at hl 2 rfl) ?_
      refine lv_bipush (v := 81) hx hb dX13_logs_15 (by decide) ?_
      refine lv_icmp_ge (tgt := 40) hx hb dX13_logs_17 (by decide) (fun c_1 => ?_) (fun c_1 => ?_)
      · skip
        have c_1 : 81 ≤ (51 + i) := (nI_leI (a := 81) (b := 51 + i) (by omega) (by omega)).mp c_1
        refine lv_aload_n hx hb dX13_logs_40 rfl (lv_at hl 0 rfl) ?_
        refine va_get (D := D) (ci := 11) (v := .ref (q 1)) (C := RX13) (T := TX13) (N := 29) hx hb hts kc_RX13 hown hK hP 0 rfl rfl 5 (by decide) k_fieldLink_16 (fun _ h9 => h9) rfl dX13_logs_41 ?_
        refine lv_iconst (v := 4) hx hb dX13_logs_44 (by decide) ?_
        refine lv_dup2_11 hx hb dX13_logs_45 rfl rfl ?_
        refine ia_ld hx hb hK hP 1 rfl 4 (by omega) (by decide) dX13_logs_46 ?_
        rw [show ((lgm v i) 4 : Int32) = 16 from by rw [← show nI n = 16 from by rw [h16]; rfl]; simp [lgm, hv4]]
        refine lv_iconst (v := 1) hx hb dX13_logs_47 (by decide) ?_
        refine ni_sub hx hb 16 1 (by omega) dX13_logs_48 ?_
        refine ia_st hx hb hK hP hD hS 1 rfl 4 (by omega) (by decide) (bMO k q th ea fa ch tn he en ln sv wr dg ++ bI83 k (q 1) (upd (lgm v i) 4 15)) rfl dX13_logs_49 (fun H locs hP hD hS => ?_)
        refine lv_aload_n hx hb dX13_logs_50 rfl (lv_at hl 0 rfl) ?_
        refine va_get (D := D) (ci := 11) (v := .ref (q 1)) (C := RX13) (T := TX13) (N := 29) hx hb hts kc_RX13 hown hK hP 0 rfl rfl 5 (by decide) k_fieldLink_16 (fun _ h9 => h9) rfl dX13_logs_51 ?_
        refine lv_bipush (v := 51) hx hb dX13_logs_54 (by decide) ?_
        refine lv_iconst (v := 2) hx hb dX13_logs_56 (by decide) ?_
        refine lv_aload_n hx hb dX13_logs_57 rfl (lv_at hl 0 rfl) ?_
        refine va_get (D := D) (ci := 11) (v := .ref (q 1)) (C := RX13) (T := TX13) (N := 29) hx hb hts kc_RX13 hown hK hP 0 rfl rfl 5 (by decide) k_fieldLink_16 (fun _ h9 => h9) rfl dX13_logs_58 ?_
        refine lv_iconst (v := 4) hx hb dX13_logs_61 (by decide) ?_
        refine ia_ld hx hb hK hP 1 rfl 4 (by omega) (by decide) dX13_logs_62 ?_
        rw [show ((upd (lgm v i) 4 15) 4 : Int32) = 15 from by rfl]
        refine ni_mul hx hb 2 15 dX13_logs_63 ?_
        refine ni_add hx hb 51 30 dX13_logs_64 ?_
        refine lv_aload_n hx hb dX13_logs_65 rfl (lv_at hl 0 rfl) ?_
        refine va_get (D := D) (ci := 11) (v := .ref (q 1)) (C := RX13) (T := TX13) (N := 29) hx hb hts kc_RX13 hown hK hP 0 rfl rfl 5 (by decide) k_fieldLink_16 (fun _ h9 => h9) rfl dX13_logs_66 ?_
        refine lv_iconst (v := 2) hx hb dX13_logs_69 (by decide) ?_
        refine ia_ld hx hb hK hP 1 rfl 2 (by omega) (by decide) dX13_logs_70 ?_
        refine ia_st hx hb hK hP hD hS 1 rfl 81 (by omega) (by decide) (bMO k q th ea fa ch tn he en ln sv wr dg ++ bI83 k (q 1) (upd (upd (lgm v i) 4 15) 81 ((upd (lgm v i) 4 15) 2))) rfl dX13_logs_71 (fun H locs hP hD hS => ?_)
        refine lv_aload_n hx hb dX13_logs_72 rfl (lv_at hl 0 rfl) ?_
        refine va_get (D := D) (ci := 11) (v := .ref (q 1)) (C := RX13) (T := TX13) (N := 29) hx hb hts kc_RX13 hown hK hP 0 rfl rfl 5 (by decide) k_fieldLink_16 (fun _ h9 => h9) rfl dX13_logs_73 ?_
        refine lv_bipush (v := 51) hx hb dX13_logs_76 (by decide) ?_
        refine lv_iconst (v := 2) hx hb dX13_logs_78 (by decide) ?_
        refine lv_aload_n hx hb dX13_logs_79 rfl (lv_at hl 0 rfl) ?_
        refine va_get (D := D) (ci := 11) (v := .ref (q 1)) (C := RX13) (T := TX13) (N := 29) hx hb hts kc_RX13 hown hK hP 0 rfl rfl 5 (by decide) k_fieldLink_16 (fun _ h9 => h9) rfl dX13_logs_80 ?_
        refine lv_iconst (v := 4) hx hb dX13_logs_83 (by decide) ?_
        refine ia_ld hx hb hK hP 1 rfl 4 (by omega) (by decide) dX13_logs_84 ?_
        rw [show ((upd (upd (lgm v i) 4 15) 81 ((upd (lgm v i) 4 15) 2)) 4 : Int32) = 15 from by rfl]
        refine ni_mul hx hb 2 15 dX13_logs_85 ?_
        refine ni_add hx hb 51 30 dX13_logs_86 ?_
        refine lv_iconst (v := 1) hx hb dX13_logs_87 (by decide) ?_
        refine ni_add hx hb 81 1 dX13_logs_88 ?_
        refine lv_iload_n hx hb dX13_logs_89 rfl (lv_at hl 1 rfl) ?_
        refine ia_st hx hb hK hP hD hS 1 rfl 82 (by omega) (by decide) (bMO k q th ea fa ch tn he en ln sv wr dg ++ bI83 k (q 1) (upd (upd (upd (lgm v i) 4 15) 81 ((upd (lgm v i) 4 15) 2)) 82 z)) rfl dX13_logs_90 (fun H locs hP hD hS => ?_)
        refine lv_aload_n hx hb dX13_logs_91 rfl (lv_at hl 0 rfl) ?_
        refine va_get (D := D) (ci := 11) (v := .ref (q 1)) (C := RX13) (T := TX13) (N := 29) hx hb hts kc_RX13 hown hK hP 0 rfl rfl 5 (by decide) k_fieldLink_16 (fun _ h9 => h9) rfl dX13_logs_92 ?_
        refine lv_iconst (v := 4) hx hb dX13_logs_95 (by decide) ?_
        refine lv_dup2_11 hx hb dX13_logs_96 rfl rfl ?_
        refine ia_ld hx hb hK hP 1 rfl 4 (by omega) (by decide) dX13_logs_97 ?_
        rw [show ((upd (upd (upd (lgm v i) 4 15) 81 ((upd (lgm v i) 4 15) 2)) 82 z) 4 : Int32) = 15 from by rfl]
        refine lv_iconst (v := 1) hx hb dX13_logs_98 (by decide) ?_
        refine ni_add hx hb 15 1 dX13_logs_99 ?_
        refine ia_st hx hb hK hP hD hS 1 rfl 4 (by omega) (by decide) (bMO k q th ea fa ch tn he en ln sv wr dg ++ bI83 k (q 1) (upd (upd (upd (upd (lgm v i) 4 15) 81 ((upd (lgm v i) 4 15) 2)) 82 z) 4 16)) rfl dX13_logs_100 (fun H locs hP hD hS => ?_)
        have e_2 : (upd (upd (upd (upd (lgm v i) 4 15) 81 ((upd (lgm v i) 4 15) 2)) 82 z) 4 16 : Nat → Int32) = lgS v n z := by first | (with_reducible rfl) | (obtain rfl : i = 30 := (by omega); unfold lgS; rw [if_pos h16]; rfl)
        have hP := Eq.mp (congrArg (fun z9 => va_P D vwCl (bMO k q th ea fa ch tn he en ln sv wr dg ++ bI83 k (q 1) z9) H) e_2) hP
        have hD := Eq.mp (congrArg (fun z9 => va_D A (bMO k q th ea fa ch tn he en ln sv wr dg ++ bI83 k (q 1) z9)) e_2) hD
        exact W.vret hx hb hr (fun t9 ht hW => ⟨⟨(), rfl, trivial, ⟨by rw [ht]; exact hP, va_K.moved hW.alike hK, hD⟩⟩, hS.F ht⟩) hS.2.2 dX13_logs_101 hlocks
      · skip
        have c_1 : ¬ 81 ≤ (51 + i) := fun h => c_1 ((nI_leI (a := 81) (b := 51 + i) (by omega) (by omega)).mpr h)
        refine lv_aload_n hx hb dX13_logs_20 rfl (lv_at hl 0 rfl) ?_
        refine va_get (D := D) (ci := 11) (v := .ref (q 1)) (C := RX13) (T := TX13) (N := 29) hx hb hts kc_RX13 hown hK hP 0 rfl rfl 5 (by decide) k_fieldLink_16 (fun _ h9 => h9) rfl dX13_logs_21 ?_
        refine lv_iload_n hx hb dX13_logs_24 rfl (lv_at hl 2 rfl) ?_
        refine lv_aload_n hx hb dX13_logs_25 rfl (lv_at hl 0 rfl) ?_
        refine va_get (D := D) (ci := 11) (v := .ref (q 1)) (C := RX13) (T := TX13) (N := 29) hx hb hts kc_RX13 hown hK hP 0 rfl rfl 5 (by decide) k_fieldLink_16 (fun _ h9 => h9) rfl dX13_logs_26 ?_
        refine lv_iload_n hx hb dX13_logs_29 rfl (lv_at hl 2 rfl) ?_
        refine lv_iconst (v := 2) hx hb dX13_logs_30 (by decide) ?_
        refine ni_add hx hb (51 + i) 2 dX13_logs_31 ?_
        refine ia_ld hx hb hK hP 1 rfl ((51 + i) + 2) (by omega) (by decide) dX13_logs_32 ?_
        refine ia_st hx hb hK hP hD hS 1 rfl (51 + i) (by omega) (by decide) (bMO k q th ea fa ch tn he en ln sv wr dg ++ bI83 k (q 1) (upd (lgm v i) (51 + i) ((lgm v i) ((51 + i) + 2)))) rfl dX13_logs_33 (fun H locs hP hD hS => ?_)
        refine lv_iinc (v := nI ((51 + i) + 1)) (lv' := [(2, .int (nI ((51 + i) + 1))), (0, .ref (q 0)), (1, .int z)]) hx hb dX13_logs_34 hl (k := 2) rfl (nI_inc (51 + i)) (by decide) rfl (fun ls hl => ?_)
        refine lv_goto (tgt := 14) hx hb dX13_logs_37 (by decide) ?_
        have e_3 : (nI ((51 + i) + 1) : Int32) = nI (51 + (i + 1)) := by first | (with_reducible rfl) | (rfl)
        have e_4 : (upd (lgm v i) (51 + i) ((lgm v i) ((51 + i) + 2)) : Nat → Int32) = lgm v (i + 1) := by first | (with_reducible rfl) | (exact lgm_u v i)
        have hP := Eq.mp (congrArg (fun z9 => va_P D vwCl (bMO k q th ea fa ch tn he en ln sv wr dg ++ bI83 k (q 1) z9) H) e_4) hP
        have hD := Eq.mp (congrArg (fun z9 => va_D A (bMO k q th ea fa ch tn he en ln sv wr dg ++ bI83 k (q 1) z9)) e_4) hD
        exact ih_14 (i + 1) (by omega) h16 (by omega) ls _ _ hP hD hS (lv_one hl 1 rfl rfl (lv_one hl 2 rfl rfl (lv_one hl 0 rfl (congrArg Value.int e_3) (lv_nil hl))))
  refine lv_aload_n hx hb dX13_logs_0 rfl (lv_at hl 0 rfl) ?_
  refine va_get (D := D) (ci := 11) (v := .ref (q 1)) (C := RX13) (T := TX13) (N := 29) hx hb hts kc_RX13 hown hK hP 0 rfl rfl 5 (by decide) k_fieldLink_16 (fun _ h9 => h9) rfl dX13_logs_1 ?_
  refine lv_iconst (v := 4) hx hb dX13_logs_4 (by decide) ?_
  refine ia_ld hx hb hK hP 1 rfl 4 (by omega) (by decide) dX13_logs_5 ?_
  rw [hv4]
  refine lv_bipush (v := 16) hx hb dX13_logs_6 (by decide) ?_
  refine lv_icmp_ne (tgt := 50) hx hb dX13_logs_8 (by decide) (fun c_5 => ?_) (fun c_5 => ?_)
  · skip
    have c_5 : ¬ n = 16 := fun h => c_5 ((nI_eq (a := n) (b := 16) (by omega) (by omega)).mpr h)
    refine lv_aload_n hx hb dX13_logs_50 rfl (lv_at hl 0 rfl) ?_
    refine va_get (D := D) (ci := 11) (v := .ref (q 1)) (C := RX13) (T := TX13) (N := 29) hx hb hts kc_RX13 hown hK hP 0 rfl rfl 5 (by decide) k_fieldLink_16 (fun _ h9 => h9) rfl dX13_logs_51 ?_
    refine lv_bipush (v := 51) hx hb dX13_logs_54 (by decide) ?_
    refine lv_iconst (v := 2) hx hb dX13_logs_56 (by decide) ?_
    refine lv_aload_n hx hb dX13_logs_57 rfl (lv_at hl 0 rfl) ?_
    refine va_get (D := D) (ci := 11) (v := .ref (q 1)) (C := RX13) (T := TX13) (N := 29) hx hb hts kc_RX13 hown hK hP 0 rfl rfl 5 (by decide) k_fieldLink_16 (fun _ h9 => h9) rfl dX13_logs_58 ?_
    refine lv_iconst (v := 4) hx hb dX13_logs_61 (by decide) ?_
    refine ia_ld hx hb hK hP 1 rfl 4 (by omega) (by decide) dX13_logs_62 ?_
    rw [hv4]
    refine ni_mul hx hb 2 n dX13_logs_63 ?_
    refine ni_add hx hb 51 (2 * n) dX13_logs_64 ?_
    refine lv_aload_n hx hb dX13_logs_65 rfl (lv_at hl 0 rfl) ?_
    refine va_get (D := D) (ci := 11) (v := .ref (q 1)) (C := RX13) (T := TX13) (N := 29) hx hb hts kc_RX13 hown hK hP 0 rfl rfl 5 (by decide) k_fieldLink_16 (fun _ h9 => h9) rfl dX13_logs_66 ?_
    refine lv_iconst (v := 2) hx hb dX13_logs_69 (by decide) ?_
    refine ia_ld hx hb hK hP 1 rfl 2 (by omega) (by decide) dX13_logs_70 ?_
    refine ia_st hx hb hK hP hD hS 1 rfl (51 + (2 * n)) (by omega) (by decide) (bMO k q th ea fa ch tn he en ln sv wr dg ++ bI83 k (q 1) (upd v (51 + (2 * n)) (v 2))) rfl dX13_logs_71 (fun H locs hP hD hS => ?_)
    refine lv_aload_n hx hb dX13_logs_72 rfl (lv_at hl 0 rfl) ?_
    refine va_get (D := D) (ci := 11) (v := .ref (q 1)) (C := RX13) (T := TX13) (N := 29) hx hb hts kc_RX13 hown hK hP 0 rfl rfl 5 (by decide) k_fieldLink_16 (fun _ h9 => h9) rfl dX13_logs_73 ?_
    refine lv_bipush (v := 51) hx hb dX13_logs_76 (by decide) ?_
    refine lv_iconst (v := 2) hx hb dX13_logs_78 (by decide) ?_
    refine lv_aload_n hx hb dX13_logs_79 rfl (lv_at hl 0 rfl) ?_
    refine va_get (D := D) (ci := 11) (v := .ref (q 1)) (C := RX13) (T := TX13) (N := 29) hx hb hts kc_RX13 hown hK hP 0 rfl rfl 5 (by decide) k_fieldLink_16 (fun _ h9 => h9) rfl dX13_logs_80 ?_
    refine lv_iconst (v := 4) hx hb dX13_logs_83 (by decide) ?_
    refine ia_ld hx hb hK hP 1 rfl 4 (by omega) (by decide) dX13_logs_84 ?_
    rw [show ((upd v (51 + (2 * n)) (v 2)) 4 : Int32) = nI n from by rw [upd_at, if_neg (by omega), hv4]]
    refine ni_mul hx hb 2 n dX13_logs_85 ?_
    refine ni_add hx hb 51 (2 * n) dX13_logs_86 ?_
    refine lv_iconst (v := 1) hx hb dX13_logs_87 (by decide) ?_
    refine ni_add hx hb (51 + (2 * n)) 1 dX13_logs_88 ?_
    refine lv_iload_n hx hb dX13_logs_89 rfl (lv_at hl 1 rfl) ?_
    refine ia_st hx hb hK hP hD hS 1 rfl ((51 + (2 * n)) + 1) (by omega) (by decide) (bMO k q th ea fa ch tn he en ln sv wr dg ++ bI83 k (q 1) (upd (upd v (51 + (2 * n)) (v 2)) ((51 + (2 * n)) + 1) z)) rfl dX13_logs_90 (fun H locs hP hD hS => ?_)
    refine lv_aload_n hx hb dX13_logs_91 rfl (lv_at hl 0 rfl) ?_
    refine va_get (D := D) (ci := 11) (v := .ref (q 1)) (C := RX13) (T := TX13) (N := 29) hx hb hts kc_RX13 hown hK hP 0 rfl rfl 5 (by decide) k_fieldLink_16 (fun _ h9 => h9) rfl dX13_logs_92 ?_
    refine lv_iconst (v := 4) hx hb dX13_logs_95 (by decide) ?_
    refine lv_dup2_11 hx hb dX13_logs_96 rfl rfl ?_
    refine ia_ld hx hb hK hP 1 rfl 4 (by omega) (by decide) dX13_logs_97 ?_
    rw [show ((upd (upd v (51 + (2 * n)) (v 2)) ((51 + (2 * n)) + 1) z) 4 : Int32) = nI n from by rw [upd_at, if_neg (by omega), upd_at, if_neg (by omega), hv4]]
    refine lv_iconst (v := 1) hx hb dX13_logs_98 (by decide) ?_
    refine ni_add hx hb n 1 dX13_logs_99 ?_
    refine ia_st hx hb hK hP hD hS 1 rfl 4 (by omega) (by decide) (bMO k q th ea fa ch tn he en ln sv wr dg ++ bI83 k (q 1) (upd (upd (upd v (51 + (2 * n)) (v 2)) ((51 + (2 * n)) + 1) z) 4 (nI (n + 1)))) rfl dX13_logs_100 (fun H locs hP hD hS => ?_)
    have e_6 : (upd (upd (upd v (51 + (2 * n)) (v 2)) ((51 + (2 * n)) + 1) z) 4 (nI (n + 1)) : Nat → Int32) = lgS v n z := by first | (with_reducible rfl) | (unfold lgS; rw [if_neg (by assumption)]; rfl)
    have hP := Eq.mp (congrArg (fun z9 => va_P D vwCl (bMO k q th ea fa ch tn he en ln sv wr dg ++ bI83 k (q 1) z9) H) e_6) hP
    have hD := Eq.mp (congrArg (fun z9 => va_D A (bMO k q th ea fa ch tn he en ln sv wr dg ++ bI83 k (q 1) z9)) e_6) hD
    exact W.vret hx hb hr (fun t9 ht hW => ⟨⟨(), rfl, trivial, ⟨by rw [ht]; exact hP, va_K.moved hW.alike hK, hD⟩⟩, hS.F ht⟩) hS.2.2 dX13_logs_101 hlocks
  · skip
    have c_5 : n = 16 := (nI_eq (a := n) (b := 16) (by omega) (by omega)).mp c_5
    refine lv_bipush (v := 51) hx hb dX13_logs_11 (by decide) ?_
    refine lv_istore_n (lv' := [(2, .int 51), (0, .ref (q 0)), (1, .int z)]) hx hb dX13_logs_13 rfl hl (by decide) rfl (fun ls hl => ?_)
    have e_7 : (51 : Int32) = nI (51 + 0) := by first | (with_reducible rfl) | (rfl)
    have e_8 : (v : Nat → Int32) = lgm v 0 := by first | (with_reducible rfl) | (exact lgm_0 v)
    have hP := Eq.mp (congrArg (fun z9 => va_P D vwCl (bMO k q th ea fa ch tn he en ln sv wr dg ++ bI83 k (q 1) z9) H) e_8) hP
    have hD := Eq.mp (congrArg (fun z9 => va_D A (bMO k q th ea fa ch tn he en ln sv wr dg ++ bI83 k (q 1) z9)) e_8) hD
    exact loop_14 ((30 - 0) + 1) 0 (by omega) (by omega) (Nat.lt_succ_self _) ls _ _ hP hD hS (lv_one hl 1 rfl rfl (lv_one hl 2 rfl rfl (lv_one hl 0 rfl (congrArg Value.int e_7) (lv_nil hl))))

set_option maxHeartbeats 4000000 in
set_option maxRecDepth 100000 in
theorem m_X13_sets (l9 : Launch) (D : va_G) (k : Nat → ClassId) (sz : Nat) (q : Nat → Nat) (th ea fa : Int32) (ch tn he en ln : Nat) (sv wr dg : Bool) (v : Nat → Int32) (n : Nat) (x y : Int32) (b : Bool) (hn : n ≤ 10) (hv0 : v 0 = nI n) : Met l9 yX13_sets wsX13_sets ({ frames := 2, cells := 0, slots := 0, locals := 43 }) (WPc D k [.ref (q 0), .int x, .int y, .int (bI b)] (bMO k q th ea fa ch tn he en ln sv wr dg ++ bI83 k (q 1) v) sz) (WI D k (bMO k q ((opSets v n th x y b).2.1) ea fa ch tn he en ln sv wr dg ++ bI83 k (q 1) ((opSets v n th x y b).2.2)) ((opSets v n th x y b).1) (va_A (bMO k q th ea fa ch tn he en ln sv wr dg ++ bI83 k (q 1) v) sz)) 0 0 (va_A (bMO k q th ea fa ch tn he en ln sv wr dg ++ bI83 k (q 1) v) sz) := by
  refine wMet (y := yX13_sets) (cc := cX13_sets) (maxL := 5) (ret := (some .int)) (Qc := fun A => WI D k (bMO k q ((opSets v n th x y b).2.1) ea fa ch tn he en ln sv wr dg ++ bI83 k (q 1) ((opSets v n th x y b).2.2)) ((opSets v n th x y b).1) A) [.ref (q 0), .int x, .int y, .int (bI b)] (by decide) rfl (Nat.le_of_ble_eq_true rfl) ?_
  intro p9 e9 s9 m9 bl9 me9 c9 ls A H hF hr hlocks hP hK hN hD hA hS hl hin
  have hl : lv_has ls 5 [(0, .ref (q 0)), (1, .int x), (2, .int y), (3, .int (bI b))] := hl
  obtain ⟨hx, hb, hml, hown, hts⟩ := id hF
  have k_fieldLink_16 : (Cond.fieldLink RX13 16 "OpinionReactorModel" "v" "[I").before _ s9 = true := hts (.fieldLink RX13 16 "OpinionReactorModel" "v" "[I") (by decide +kernel)
  have kc_RX13 : ∀ w ∈ u_ws RX13 TX13 29, w ∈ wsX13_sets := by decide +kernel
  refine lv_aload_n hx hb dX13_sets_0 rfl (lv_at hl 0 rfl) ?_
  refine lv_iload_n hx hb dX13_sets_1 rfl (lv_at hl 1 rfl) ?_
  refine vp_callSi (W.runV (As := [.int x]) (rest := []) hF (m_X13_isClaim l9 D k q th ea fa ch tn he en ln sv wr dg v n x hn hv0) (cwV 1 hts gX13_sets_X13_isClaim rfl rfl rfl (by decide +kernel) ⟨Nat.le_of_ble_eq_true rfl, Nat.le_of_ble_eq_true rfl⟩) (rPreV hK hN hP [0, 1] rfl 0 11 rfl rfl) rfl rfl hl.1 rfl (lv_room (Nat.le_of_ble_eq_true rfl)) dX13_sets_2 ⟨Nat.zero_le _, Nat.zero_le _⟩) (fun r_1 hr_1 => ?_)
  subst hr_1
  refine lv_if_eq (tgt := 16) hx hb dX13_sets_5 (by decide) (fun c_2 => ?_) (fun c_2 => ?_)
  · skip
    have c_2 : (inC n x) = false := bI_0 c_2
    refine lv_aload_n hx hb dX13_sets_16 rfl (lv_at hl 0 rfl) ?_
    refine lv_iconst (v := 1) hx hb dX13_sets_17 (by decide) ?_
    have hFc := va_free (wc := bMO k q th ea fa ch tn he en ln sv wr dg) hD hS hA [0] rfl
    refine va_calli (va_runV (As := [.int 1]) (rest := []) hF (m_X13_fail l9 D k H.size q th ea fa ch tn he en ln sv wr dg 1 ) (cwV 1 hts gX13_sets_X13_fail rfl rfl rfl (by decide +kernel) ⟨Nat.le_of_ble_eq_true rfl, Nat.le_of_ble_eq_true rfl⟩) (wPreV hK hN hP hD [0] rfl (by decide) rfl 0 11 rfl rfl) rfl rfl hl.1 rfl (lv_room (Nat.le_of_ble_eq_true rfl)) dX13_sets_18 ⟨Nat.zero_le _, Nat.zero_le _⟩) hS (fun q _ h => hFc q h) hFc (fun r u9 t9 H1 locs ht hvm hw hB hz1 hk1 hS => ?_)
    obtain ⟨hP, hD⟩ := wjoin (wr := bI83 k (q 1) v) (wf := bMO k q 1 ea fa ch tn he en ln sv wr dg ++ bI83 k (q 1) v) hP hD [0] [1] [1, 0] rfl rfl (by decide) (by decide) hk1 hFc hB ht rfl rfl (by decide)
    subst hw
    clear hB hk1 hz1 hvm hFc
    clear ht
    clear t9
    generalize H1 = H at hP hS ⊢
    have e_3 : (1 : Int32) = (opSets v n th x y b).2.1 := by first | (with_reducible rfl) | ((try simp only [opSets]); (repeat (first | rw [if_pos (by first | assumption | exact Eq.trans (b := false) (by assumption) (Eq.symm (by assumption)) | exact Eq.trans (b := true) (by assumption) (Eq.symm (by assumption)) | exact ⟨by assumption, by assumption⟩ | exact Or.inl (by assumption) | exact Or.inr (by assumption) | exact Or.inr (Or.inl (by assumption)) | exact Or.inr (Or.inr (by assumption)) | (simp only [Int32.lt_iff_toInt_lt, Int32.le_iff_toInt_le, i32_0, i32_1, i32_2, i32_3, i32_4, i32_9, i32_10, i32_99, i32_100, i32_1000, i32_9999] at *; omega))] | rw [if_neg (by first | assumption | (rintro (h9 | h9 | h9) <;> contradiction) | (rintro (h9 | h9) <;> contradiction) | (intro h9; exact Bool.noConfusion (Eq.trans (c := false) h9.symm (by assumption))) | (rintro ⟨h8, h9⟩; exact Bool.noConfusion (Eq.trans (c := false) h8.symm (by assumption))) | (rintro ⟨h8, h9⟩; exact Bool.noConfusion (Eq.trans (c := false) h9.symm (by assumption))) | (simp only [Int32.lt_iff_toInt_lt, Int32.le_iff_toInt_le, i32_0, i32_1, i32_2, i32_3, i32_4, i32_9, i32_10, i32_99, i32_100, i32_1000, i32_9999] at *; omega))])); (try rfl))
    have hP := Eq.mp (congrArg (fun z9 => va_P D vwCl (bMO k q z9 ea fa ch tn he en ln sv wr dg ++ bI83 k (q 1) v) H) e_3) hP
    have hD := Eq.mp (congrArg (fun z9 => va_D A (bMO k q z9 ea fa ch tn he en ln sv wr dg ++ bI83 k (q 1) v)) e_3) hD
    have e_4 : (v : Nat → Int32) = (opSets v n th x y b).2.2 := by first | (with_reducible rfl) | ((try simp only [opSets]); (repeat (first | rw [if_pos (by first | assumption | exact Eq.trans (b := false) (by assumption) (Eq.symm (by assumption)) | exact Eq.trans (b := true) (by assumption) (Eq.symm (by assumption)) | exact ⟨by assumption, by assumption⟩ | exact Or.inl (by assumption) | exact Or.inr (by assumption) | exact Or.inr (Or.inl (by assumption)) | exact Or.inr (Or.inr (by assumption)) | (simp only [Int32.lt_iff_toInt_lt, Int32.le_iff_toInt_le, i32_0, i32_1, i32_2, i32_3, i32_4, i32_9, i32_10, i32_99, i32_100, i32_1000, i32_9999] at *; omega))] | rw [if_neg (by first | assumption | (rintro (h9 | h9 | h9) <;> contradiction) | (rintro (h9 | h9) <;> contradiction) | (intro h9; exact Bool.noConfusion (Eq.trans (c := false) h9.symm (by assumption))) | (rintro ⟨h8, h9⟩; exact Bool.noConfusion (Eq.trans (c := false) h8.symm (by assumption))) | (rintro ⟨h8, h9⟩; exact Bool.noConfusion (Eq.trans (c := false) h9.symm (by assumption))) | (simp only [Int32.lt_iff_toInt_lt, Int32.le_iff_toInt_le, i32_0, i32_1, i32_2, i32_3, i32_4, i32_9, i32_10, i32_99, i32_100, i32_1000, i32_9999] at *; omega))])); (try rfl))
    have hP := Eq.mp (congrArg (fun z9 => va_P D vwCl (bMO k q ((opSets v n th x y b).2.1) ea fa ch tn he en ln sv wr dg ++ bI83 k (q 1) z9) H) e_4) hP
    have hD := Eq.mp (congrArg (fun z9 => va_D A (bMO k q ((opSets v n th x y b).2.1) ea fa ch tn he en ln sv wr dg ++ bI83 k (q 1) z9)) e_4) hD
    exact W.iret (v := 0) hx hb hr (fun t9 ht hW => ⟨⟨_, (), rfl, (by (try simp only [opSets]); (repeat (first | rw [if_pos (by first | assumption | exact Eq.trans (b := false) (by assumption) (Eq.symm (by assumption)) | exact Eq.trans (b := true) (by assumption) (Eq.symm (by assumption)) | exact ⟨by assumption, by assumption⟩ | exact Or.inl (by assumption) | exact Or.inr (by assumption) | exact Or.inr (Or.inl (by assumption)) | exact Or.inr (Or.inr (by assumption)) | (simp only [Int32.lt_iff_toInt_lt, Int32.le_iff_toInt_le, i32_0, i32_1, i32_2, i32_3, i32_4, i32_9, i32_10, i32_99, i32_100, i32_1000, i32_9999] at *; omega))] | rw [if_neg (by first | assumption | (rintro (h9 | h9 | h9) <;> contradiction) | (rintro (h9 | h9) <;> contradiction) | (intro h9; exact Bool.noConfusion (Eq.trans (c := false) h9.symm (by assumption))) | (rintro ⟨h8, h9⟩; exact Bool.noConfusion (Eq.trans (c := false) h8.symm (by assumption))) | (rintro ⟨h8, h9⟩; exact Bool.noConfusion (Eq.trans (c := false) h9.symm (by assumption))) | (simp only [Int32.lt_iff_toInt_lt, Int32.le_iff_toInt_le, i32_0, i32_1, i32_2, i32_3, i32_4, i32_9, i32_10, i32_99, i32_100, i32_1000, i32_9999] at *; omega))])); (try rfl)), ⟨by rw [ht]; exact hP, va_K.moved hW.alike hK, hD⟩⟩, hS.F ht⟩) hS.2.2 dX13_sets_21 hlocks
  · skip
    have c_2 : (inC n x) = true := bI_1 c_2
    obtain ⟨j, hj, rfl⟩ := inC_of hn c_2
    have clj : (nI j).toNatClampNeg = j := clN (by omega)
    refine lv_aload_n hx hb dX13_sets_8 rfl (lv_at hl 0 rfl) ?_
    refine lv_iload_n hx hb dX13_sets_9 rfl (lv_at hl 2 rfl) ?_
    refine vp_callSi (W.runV (As := [.int y]) (rest := []) hF (m_X13_isClaim l9 D k q th ea fa ch tn he en ln sv wr dg v n y hn hv0) (cwV 1 hts gX13_sets_X13_isClaim rfl rfl rfl (by decide +kernel) ⟨Nat.le_of_ble_eq_true rfl, Nat.le_of_ble_eq_true rfl⟩) (rPreV hK hN hP [0, 1] rfl 0 11 rfl rfl) rfl rfl hl.1 rfl (lv_room (Nat.le_of_ble_eq_true rfl)) dX13_sets_10 ⟨Nat.zero_le _, Nat.zero_le _⟩) (fun r_5 hr_5 => ?_)
    subst hr_5
    refine lv_if_ne (tgt := 22) hx hb dX13_sets_13 (by decide) (fun c_6 => ?_) (fun c_6 => ?_)
    · skip
      have c_6 : (inC n y) = true := bI_1 c_6
      obtain ⟨i, hi, rfl⟩ := inC_of hn c_6
      have cli : (nI i).toNatClampNeg = i := clN (by omega)
      refine lv_aload_n hx hb dX13_sets_22 rfl (lv_at hl 0 rfl) ?_
      refine lv_iload_n hx hb dX13_sets_23 rfl (lv_at hl 1 rfl) ?_
      refine lv_iload_n hx hb dX13_sets_24 rfl (lv_at hl 2 rfl) ?_
      refine vp_callSi (W.runV (As := [.int (nI j), .int (nI i)]) (rest := []) hF (m_X13_hits l9 D k q th ea fa ch tn he en ln sv wr dg v n j i hn hv0 (by omega) (by omega)) (cwV 2 hts gX13_sets_X13_hits rfl rfl rfl (by decide +kernel) ⟨Nat.le_of_ble_eq_true rfl, Nat.le_of_ble_eq_true rfl⟩) (rPreV hK hN hP [0, 1] rfl 0 11 rfl rfl) rfl rfl hl.1 rfl (lv_room (Nat.le_of_ble_eq_true rfl)) dX13_sets_25 ⟨Nat.zero_le _, Nat.zero_le _⟩) (fun r_7 hr_7 => ?_)
      subst hr_7
      refine lv_if_eq (tgt := 35) hx hb dX13_sets_28 (by decide) (fun c_8 => ?_) (fun c_8 => ?_)
      · skip
        have c_8 : (tb (vt v j) i) = false := bI_0 c_8
        refine lv_iconst (v := 0) hx hb dX13_sets_35 (by decide) ?_
        refine lv_istore (lv' := [(4, .int 0), (0, .ref (q 0)), (1, .int (nI j)), (2, .int (nI i)), (3, .int (bI b))]) hx hb dX13_sets_36 hl (by decide) rfl (fun ls hl => ?_)
        refine lv_iload hx hb dX13_sets_38 (lv_at hl 0 rfl) ?_
        refine lv_iload_n hx hb dX13_sets_40 rfl (lv_at hl 4 rfl) ?_
        refine lv_if_eq (tgt := 48) hx hb dX13_sets_41 (by decide) (fun c_9 => ?_) (fun c_9 => ?_)
        · skip
          have c_9 : b = false := bI_0 c_9
          refine lv_iconst (v := 0) hx hb dX13_sets_48 (by decide) ?_
          refine lv_icmp_eq (tgt := 68) hx hb dX13_sets_49 (by decide) (fun c_10 => ?_) (fun c_10 => ?_)
          · skip
            refine lv_iload hx hb dX13_sets_68 (lv_at hl 0 rfl) ?_
            have e_11 : (th : Int32) = (opSets v n th (nI j) (nI i) b).2.1 := by first | (with_reducible rfl) | ((try simp only [opSets, clj, cli]); (repeat (first | rw [if_pos (by first | assumption | exact Eq.trans (b := false) (by assumption) (Eq.symm (by assumption)) | exact Eq.trans (b := true) (by assumption) (Eq.symm (by assumption)) | exact ⟨by assumption, by assumption⟩ | exact Or.inl (by assumption) | exact Or.inr (by assumption) | exact Or.inr (Or.inl (by assumption)) | exact Or.inr (Or.inr (by assumption)) | (simp only [Int32.lt_iff_toInt_lt, Int32.le_iff_toInt_le, i32_0, i32_1, i32_2, i32_3, i32_4, i32_9, i32_10, i32_99, i32_100, i32_1000, i32_9999] at *; omega))] | rw [if_neg (by first | assumption | (rintro (h9 | h9 | h9) <;> contradiction) | (rintro (h9 | h9) <;> contradiction) | (intro h9; exact Bool.noConfusion (Eq.trans (c := false) h9.symm (by assumption))) | (rintro ⟨h8, h9⟩; exact Bool.noConfusion (Eq.trans (c := false) h8.symm (by assumption))) | (rintro ⟨h8, h9⟩; exact Bool.noConfusion (Eq.trans (c := false) h9.symm (by assumption))) | (simp only [Int32.lt_iff_toInt_lt, Int32.le_iff_toInt_le, i32_0, i32_1, i32_2, i32_3, i32_4, i32_9, i32_10, i32_99, i32_100, i32_1000, i32_9999] at *; omega))])); (try rfl); (try (dsimp only; rw [c_8]; rfl)))
            have hP := Eq.mp (congrArg (fun z9 => va_P D vwCl (bMO k q z9 ea fa ch tn he en ln sv wr dg ++ bI83 k (q 1) v) H) e_11) hP
            have hD := Eq.mp (congrArg (fun z9 => va_D A (bMO k q z9 ea fa ch tn he en ln sv wr dg ++ bI83 k (q 1) v)) e_11) hD
            have e_12 : (v : Nat → Int32) = (opSets v n th (nI j) (nI i) b).2.2 := by first | (with_reducible rfl) | ((try simp only [opSets, clj, cli]); (repeat (first | rw [if_pos (by first | assumption | exact Eq.trans (b := false) (by assumption) (Eq.symm (by assumption)) | exact Eq.trans (b := true) (by assumption) (Eq.symm (by assumption)) | exact ⟨by assumption, by assumption⟩ | exact Or.inl (by assumption) | exact Or.inr (by assumption) | exact Or.inr (Or.inl (by assumption)) | exact Or.inr (Or.inr (by assumption)) | (simp only [Int32.lt_iff_toInt_lt, Int32.le_iff_toInt_le, i32_0, i32_1, i32_2, i32_3, i32_4, i32_9, i32_10, i32_99, i32_100, i32_1000, i32_9999] at *; omega))] | rw [if_neg (by first | assumption | (rintro (h9 | h9 | h9) <;> contradiction) | (rintro (h9 | h9) <;> contradiction) | (intro h9; exact Bool.noConfusion (Eq.trans (c := false) h9.symm (by assumption))) | (rintro ⟨h8, h9⟩; exact Bool.noConfusion (Eq.trans (c := false) h8.symm (by assumption))) | (rintro ⟨h8, h9⟩; exact Bool.noConfusion (Eq.trans (c := false) h9.symm (by assumption))) | (simp only [Int32.lt_iff_toInt_lt, Int32.le_iff_toInt_le, i32_0, i32_1, i32_2, i32_3, i32_4, i32_9, i32_10, i32_99, i32_100, i32_1000, i32_9999] at *; omega))])); (try rfl); (try (dsimp only; rw [c_8]; rfl)))
            have hP := Eq.mp (congrArg (fun z9 => va_P D vwCl (bMO k q ((opSets v n th (nI j) (nI i) b).2.1) ea fa ch tn he en ln sv wr dg ++ bI83 k (q 1) z9) H) e_12) hP
            have hD := Eq.mp (congrArg (fun z9 => va_D A (bMO k q ((opSets v n th (nI j) (nI i) b).2.1) ea fa ch tn he en ln sv wr dg ++ bI83 k (q 1) z9)) e_12) hD
            exact W.iret (v := 0) hx hb hr (fun t9 ht hW => ⟨⟨_, (), rfl, (by (try simp only [opSets, clj, cli]); (repeat (first | rw [if_pos (by first | assumption | exact Eq.trans (b := false) (by assumption) (Eq.symm (by assumption)) | exact Eq.trans (b := true) (by assumption) (Eq.symm (by assumption)) | exact ⟨by assumption, by assumption⟩ | exact Or.inl (by assumption) | exact Or.inr (by assumption) | exact Or.inr (Or.inl (by assumption)) | exact Or.inr (Or.inr (by assumption)) | (simp only [Int32.lt_iff_toInt_lt, Int32.le_iff_toInt_le, i32_0, i32_1, i32_2, i32_3, i32_4, i32_9, i32_10, i32_99, i32_100, i32_1000, i32_9999] at *; omega))] | rw [if_neg (by first | assumption | (rintro (h9 | h9 | h9) <;> contradiction) | (rintro (h9 | h9) <;> contradiction) | (intro h9; exact Bool.noConfusion (Eq.trans (c := false) h9.symm (by assumption))) | (rintro ⟨h8, h9⟩; exact Bool.noConfusion (Eq.trans (c := false) h8.symm (by assumption))) | (rintro ⟨h8, h9⟩; exact Bool.noConfusion (Eq.trans (c := false) h9.symm (by assumption))) | (simp only [Int32.lt_iff_toInt_lt, Int32.le_iff_toInt_le, i32_0, i32_1, i32_2, i32_3, i32_4, i32_9, i32_10, i32_99, i32_100, i32_1000, i32_9999] at *; omega))])); (try rfl); (try (dsimp only; rw [c_8]; rfl))), ⟨by rw [ht]; exact hP, va_K.moved hW.alike hK, hD⟩⟩, hS.F ht⟩) hS.2.2 dX13_sets_70 hlocks
          · first | exact absurd c_10 (by decide) | exact absurd (by decide) c_10
        · skip
          have c_9 : b = true := bI_1 c_9
          refine lv_iconst (v := 1) hx hb dX13_sets_44 (by decide) ?_
          refine lv_goto (tgt := 49) hx hb dX13_sets_45 (by decide) ?_
          refine lv_icmp_eq (tgt := 68) hx hb dX13_sets_49 (by decide) (fun c_13 => ?_) (fun c_13 => ?_)
          · first | exact absurd c_13 (by decide) | exact absurd (by decide) c_13
          · skip
            refine lv_aload_n hx hb dX13_sets_52 rfl (lv_at hl 1 rfl) ?_
            refine va_get (D := D) (ci := 11) (v := .ref (q 1)) (C := RX13) (T := TX13) (N := 29) hx hb hts kc_RX13 hown hK hP 0 rfl rfl 5 (by decide) k_fieldLink_16 (fun _ h9 => h9) rfl dX13_sets_53 ?_
            refine lv_iload_n hx hb dX13_sets_56 rfl (lv_at hl 2 rfl) ?_
            refine lv_iconst (v := 2) hx hb dX13_sets_57 (by decide) ?_
            refine vp_callSi (W.runS (As := [.int (nI j), .int 2]) (rest := [.ref (q 1)]) hF (m_X13_of l9 D k j 2 ) (va_cwS 2 hts gX13_sets_X13_of rfl rfl rfl (by decide +kernel) ⟨Nat.le_of_ble_eq_true rfl, Nat.le_of_ble_eq_true rfl⟩) (rPreS hK hN hP [] rfl) rfl rfl hl.1 rfl (lv_room (Nat.le_of_ble_eq_true rfl)) dX13_sets_58 ⟨Nat.zero_le _, Nat.zero_le _⟩) (fun r_14 hr_14 => ?_)
            subst hr_14
            refine lv_dup2_11 hx hb dX13_sets_61 rfl rfl ?_
            refine ia_ld hx hb hK hP 1 rfl (5 + 3 * j + 2) (by omega) (by decide) dX13_sets_62 ?_
            refine lv_iconst (v := 1) hx hb dX13_sets_63 (by decide) ?_
            refine lv_iload_n hx hb dX13_sets_64 rfl (lv_at hl 3 rfl) ?_
            refine lv_ishl hx hb dX13_sets_65 ?_
            refine lv_ixor hx hb dX13_sets_66 ?_
            refine ia_st hx hb hK hP hD hS 1 rfl (5 + 3 * j + 2) (by omega) (by decide) (bMO k q th ea fa ch tn he en ln sv wr dg ++ bI83 k (q 1) (upd v (5 + 3 * j + 2) ((v (5 + 3 * j + 2)) ^^^ (1 <<< ((nI i) &&& 31))))) rfl dX13_sets_67 (fun H locs hP hD hS => ?_)
            refine lv_iload hx hb dX13_sets_68 (lv_at hl 0 rfl) ?_
            have e_15 : (th : Int32) = (opSets v n th (nI j) (nI i) b).2.1 := by first | (with_reducible rfl) | ((try simp only [opSets, clj, cli]); (repeat (first | rw [if_pos (by first | assumption | exact Eq.trans (b := false) (by assumption) (Eq.symm (by assumption)) | exact Eq.trans (b := true) (by assumption) (Eq.symm (by assumption)) | exact ⟨by assumption, by assumption⟩ | exact Or.inl (by assumption) | exact Or.inr (by assumption) | exact Or.inr (Or.inl (by assumption)) | exact Or.inr (Or.inr (by assumption)) | (simp only [Int32.lt_iff_toInt_lt, Int32.le_iff_toInt_le, i32_0, i32_1, i32_2, i32_3, i32_4, i32_9, i32_10, i32_99, i32_100, i32_1000, i32_9999] at *; omega))] | rw [if_neg (by first | assumption | (rintro (h9 | h9 | h9) <;> contradiction) | (rintro (h9 | h9) <;> contradiction) | (intro h9; exact Bool.noConfusion (Eq.trans (c := false) h9.symm (by assumption))) | (rintro ⟨h8, h9⟩; exact Bool.noConfusion (Eq.trans (c := false) h8.symm (by assumption))) | (rintro ⟨h8, h9⟩; exact Bool.noConfusion (Eq.trans (c := false) h9.symm (by assumption))) | (simp only [Int32.lt_iff_toInt_lt, Int32.le_iff_toInt_le, i32_0, i32_1, i32_2, i32_3, i32_4, i32_9, i32_10, i32_99, i32_100, i32_1000, i32_9999] at *; omega))])); (try rfl); (try (dsimp only; rw [c_8]; rfl)))
            have hP := Eq.mp (congrArg (fun z9 => va_P D vwCl (bMO k q z9 ea fa ch tn he en ln sv wr dg ++ bI83 k (q 1) (upd v (5 + 3 * j + 2) ((v (5 + 3 * j + 2)) ^^^ (1 <<< ((nI i) &&& 31))))) H) e_15) hP
            have hD := Eq.mp (congrArg (fun z9 => va_D A (bMO k q z9 ea fa ch tn he en ln sv wr dg ++ bI83 k (q 1) (upd v (5 + 3 * j + 2) ((v (5 + 3 * j + 2)) ^^^ (1 <<< ((nI i) &&& 31)))))) e_15) hD
            have e_16 : (upd v (5 + 3 * j + 2) ((v (5 + 3 * j + 2)) ^^^ (1 <<< ((nI i) &&& 31))) : Nat → Int32) = (opSets v n th (nI j) (nI i) b).2.2 := by first | (with_reducible rfl) | ((try simp only [opSets, clj, cli]); (repeat (first | rw [if_pos (by first | assumption | exact Eq.trans (b := false) (by assumption) (Eq.symm (by assumption)) | exact Eq.trans (b := true) (by assumption) (Eq.symm (by assumption)) | exact ⟨by assumption, by assumption⟩ | exact Or.inl (by assumption) | exact Or.inr (by assumption) | exact Or.inr (Or.inl (by assumption)) | exact Or.inr (Or.inr (by assumption)) | (simp only [Int32.lt_iff_toInt_lt, Int32.le_iff_toInt_le, i32_0, i32_1, i32_2, i32_3, i32_4, i32_9, i32_10, i32_99, i32_100, i32_1000, i32_9999] at *; omega))] | rw [if_neg (by first | assumption | (rintro (h9 | h9 | h9) <;> contradiction) | (rintro (h9 | h9) <;> contradiction) | (intro h9; exact Bool.noConfusion (Eq.trans (c := false) h9.symm (by assumption))) | (rintro ⟨h8, h9⟩; exact Bool.noConfusion (Eq.trans (c := false) h8.symm (by assumption))) | (rintro ⟨h8, h9⟩; exact Bool.noConfusion (Eq.trans (c := false) h9.symm (by assumption))) | (simp only [Int32.lt_iff_toInt_lt, Int32.le_iff_toInt_le, i32_0, i32_1, i32_2, i32_3, i32_4, i32_9, i32_10, i32_99, i32_100, i32_1000, i32_9999] at *; omega))])); (try rfl); (try (dsimp only; rw [c_8]; rfl)))
            have hP := Eq.mp (congrArg (fun z9 => va_P D vwCl (bMO k q ((opSets v n th (nI j) (nI i) b).2.1) ea fa ch tn he en ln sv wr dg ++ bI83 k (q 1) z9) H) e_16) hP
            have hD := Eq.mp (congrArg (fun z9 => va_D A (bMO k q ((opSets v n th (nI j) (nI i) b).2.1) ea fa ch tn he en ln sv wr dg ++ bI83 k (q 1) z9)) e_16) hD
            exact W.iret (v := 0) hx hb hr (fun t9 ht hW => ⟨⟨_, (), rfl, (by (try simp only [opSets, clj, cli]); (repeat (first | rw [if_pos (by first | assumption | exact Eq.trans (b := false) (by assumption) (Eq.symm (by assumption)) | exact Eq.trans (b := true) (by assumption) (Eq.symm (by assumption)) | exact ⟨by assumption, by assumption⟩ | exact Or.inl (by assumption) | exact Or.inr (by assumption) | exact Or.inr (Or.inl (by assumption)) | exact Or.inr (Or.inr (by assumption)) | (simp only [Int32.lt_iff_toInt_lt, Int32.le_iff_toInt_le, i32_0, i32_1, i32_2, i32_3, i32_4, i32_9, i32_10, i32_99, i32_100, i32_1000, i32_9999] at *; omega))] | rw [if_neg (by first | assumption | (rintro (h9 | h9 | h9) <;> contradiction) | (rintro (h9 | h9) <;> contradiction) | (intro h9; exact Bool.noConfusion (Eq.trans (c := false) h9.symm (by assumption))) | (rintro ⟨h8, h9⟩; exact Bool.noConfusion (Eq.trans (c := false) h8.symm (by assumption))) | (rintro ⟨h8, h9⟩; exact Bool.noConfusion (Eq.trans (c := false) h9.symm (by assumption))) | (simp only [Int32.lt_iff_toInt_lt, Int32.le_iff_toInt_le, i32_0, i32_1, i32_2, i32_3, i32_4, i32_9, i32_10, i32_99, i32_100, i32_1000, i32_9999] at *; omega))])); (try rfl); (try (dsimp only; rw [c_8]; rfl))), ⟨by rw [ht]; exact hP, va_K.moved hW.alike hK, hD⟩⟩, hS.F ht⟩) hS.2.2 dX13_sets_70 hlocks
      · skip
        have c_8 : (tb (vt v j) i) = true := bI_1 c_8
        refine lv_iconst (v := 1) hx hb dX13_sets_31 (by decide) ?_
        refine lv_goto (tgt := 36) hx hb dX13_sets_32 (by decide) ?_
        refine lv_istore (lv' := [(4, .int 1), (0, .ref (q 0)), (1, .int (nI j)), (2, .int (nI i)), (3, .int (bI b))]) hx hb dX13_sets_36 hl (by decide) rfl (fun ls hl => ?_)
        refine lv_iload hx hb dX13_sets_38 (lv_at hl 0 rfl) ?_
        refine lv_iload_n hx hb dX13_sets_40 rfl (lv_at hl 4 rfl) ?_
        refine lv_if_eq (tgt := 48) hx hb dX13_sets_41 (by decide) (fun c_17 => ?_) (fun c_17 => ?_)
        · skip
          have c_17 : b = false := bI_0 c_17
          refine lv_iconst (v := 0) hx hb dX13_sets_48 (by decide) ?_
          refine lv_icmp_eq (tgt := 68) hx hb dX13_sets_49 (by decide) (fun c_18 => ?_) (fun c_18 => ?_)
          · first | exact absurd c_18 (by decide) | exact absurd (by decide) c_18
          · skip
            refine lv_aload_n hx hb dX13_sets_52 rfl (lv_at hl 1 rfl) ?_
            refine va_get (D := D) (ci := 11) (v := .ref (q 1)) (C := RX13) (T := TX13) (N := 29) hx hb hts kc_RX13 hown hK hP 0 rfl rfl 5 (by decide) k_fieldLink_16 (fun _ h9 => h9) rfl dX13_sets_53 ?_
            refine lv_iload_n hx hb dX13_sets_56 rfl (lv_at hl 2 rfl) ?_
            refine lv_iconst (v := 2) hx hb dX13_sets_57 (by decide) ?_
            refine vp_callSi (W.runS (As := [.int (nI j), .int 2]) (rest := [.ref (q 1)]) hF (m_X13_of l9 D k j 2 ) (va_cwS 2 hts gX13_sets_X13_of rfl rfl rfl (by decide +kernel) ⟨Nat.le_of_ble_eq_true rfl, Nat.le_of_ble_eq_true rfl⟩) (rPreS hK hN hP [] rfl) rfl rfl hl.1 rfl (lv_room (Nat.le_of_ble_eq_true rfl)) dX13_sets_58 ⟨Nat.zero_le _, Nat.zero_le _⟩) (fun r_19 hr_19 => ?_)
            subst hr_19
            refine lv_dup2_11 hx hb dX13_sets_61 rfl rfl ?_
            refine ia_ld hx hb hK hP 1 rfl (5 + 3 * j + 2) (by omega) (by decide) dX13_sets_62 ?_
            refine lv_iconst (v := 1) hx hb dX13_sets_63 (by decide) ?_
            refine lv_iload_n hx hb dX13_sets_64 rfl (lv_at hl 3 rfl) ?_
            refine lv_ishl hx hb dX13_sets_65 ?_
            refine lv_ixor hx hb dX13_sets_66 ?_
            refine ia_st hx hb hK hP hD hS 1 rfl (5 + 3 * j + 2) (by omega) (by decide) (bMO k q th ea fa ch tn he en ln sv wr dg ++ bI83 k (q 1) (upd v (5 + 3 * j + 2) ((v (5 + 3 * j + 2)) ^^^ (1 <<< ((nI i) &&& 31))))) rfl dX13_sets_67 (fun H locs hP hD hS => ?_)
            refine lv_iload hx hb dX13_sets_68 (lv_at hl 0 rfl) ?_
            have e_20 : (th : Int32) = (opSets v n th (nI j) (nI i) b).2.1 := by first | (with_reducible rfl) | ((try simp only [opSets, clj, cli]); (repeat (first | rw [if_pos (by first | assumption | exact Eq.trans (b := false) (by assumption) (Eq.symm (by assumption)) | exact Eq.trans (b := true) (by assumption) (Eq.symm (by assumption)) | exact ⟨by assumption, by assumption⟩ | exact Or.inl (by assumption) | exact Or.inr (by assumption) | exact Or.inr (Or.inl (by assumption)) | exact Or.inr (Or.inr (by assumption)) | (simp only [Int32.lt_iff_toInt_lt, Int32.le_iff_toInt_le, i32_0, i32_1, i32_2, i32_3, i32_4, i32_9, i32_10, i32_99, i32_100, i32_1000, i32_9999] at *; omega))] | rw [if_neg (by first | assumption | (rintro (h9 | h9 | h9) <;> contradiction) | (rintro (h9 | h9) <;> contradiction) | (intro h9; exact Bool.noConfusion (Eq.trans (c := false) h9.symm (by assumption))) | (rintro ⟨h8, h9⟩; exact Bool.noConfusion (Eq.trans (c := false) h8.symm (by assumption))) | (rintro ⟨h8, h9⟩; exact Bool.noConfusion (Eq.trans (c := false) h9.symm (by assumption))) | (simp only [Int32.lt_iff_toInt_lt, Int32.le_iff_toInt_le, i32_0, i32_1, i32_2, i32_3, i32_4, i32_9, i32_10, i32_99, i32_100, i32_1000, i32_9999] at *; omega))])); (try rfl); (try (dsimp only; rw [c_8]; rfl)))
            have hP := Eq.mp (congrArg (fun z9 => va_P D vwCl (bMO k q z9 ea fa ch tn he en ln sv wr dg ++ bI83 k (q 1) (upd v (5 + 3 * j + 2) ((v (5 + 3 * j + 2)) ^^^ (1 <<< ((nI i) &&& 31))))) H) e_20) hP
            have hD := Eq.mp (congrArg (fun z9 => va_D A (bMO k q z9 ea fa ch tn he en ln sv wr dg ++ bI83 k (q 1) (upd v (5 + 3 * j + 2) ((v (5 + 3 * j + 2)) ^^^ (1 <<< ((nI i) &&& 31)))))) e_20) hD
            have e_21 : (upd v (5 + 3 * j + 2) ((v (5 + 3 * j + 2)) ^^^ (1 <<< ((nI i) &&& 31))) : Nat → Int32) = (opSets v n th (nI j) (nI i) b).2.2 := by first | (with_reducible rfl) | ((try simp only [opSets, clj, cli]); (repeat (first | rw [if_pos (by first | assumption | exact Eq.trans (b := false) (by assumption) (Eq.symm (by assumption)) | exact Eq.trans (b := true) (by assumption) (Eq.symm (by assumption)) | exact ⟨by assumption, by assumption⟩ | exact Or.inl (by assumption) | exact Or.inr (by assumption) | exact Or.inr (Or.inl (by assumption)) | exact Or.inr (Or.inr (by assumption)) | (simp only [Int32.lt_iff_toInt_lt, Int32.le_iff_toInt_le, i32_0, i32_1, i32_2, i32_3, i32_4, i32_9, i32_10, i32_99, i32_100, i32_1000, i32_9999] at *; omega))] | rw [if_neg (by first | assumption | (rintro (h9 | h9 | h9) <;> contradiction) | (rintro (h9 | h9) <;> contradiction) | (intro h9; exact Bool.noConfusion (Eq.trans (c := false) h9.symm (by assumption))) | (rintro ⟨h8, h9⟩; exact Bool.noConfusion (Eq.trans (c := false) h8.symm (by assumption))) | (rintro ⟨h8, h9⟩; exact Bool.noConfusion (Eq.trans (c := false) h9.symm (by assumption))) | (simp only [Int32.lt_iff_toInt_lt, Int32.le_iff_toInt_le, i32_0, i32_1, i32_2, i32_3, i32_4, i32_9, i32_10, i32_99, i32_100, i32_1000, i32_9999] at *; omega))])); (try rfl); (try (dsimp only; rw [c_8]; rfl)))
            have hP := Eq.mp (congrArg (fun z9 => va_P D vwCl (bMO k q ((opSets v n th (nI j) (nI i) b).2.1) ea fa ch tn he en ln sv wr dg ++ bI83 k (q 1) z9) H) e_21) hP
            have hD := Eq.mp (congrArg (fun z9 => va_D A (bMO k q ((opSets v n th (nI j) (nI i) b).2.1) ea fa ch tn he en ln sv wr dg ++ bI83 k (q 1) z9)) e_21) hD
            exact W.iret (v := 1) hx hb hr (fun t9 ht hW => ⟨⟨_, (), rfl, (by (try simp only [opSets, clj, cli]); (repeat (first | rw [if_pos (by first | assumption | exact Eq.trans (b := false) (by assumption) (Eq.symm (by assumption)) | exact Eq.trans (b := true) (by assumption) (Eq.symm (by assumption)) | exact ⟨by assumption, by assumption⟩ | exact Or.inl (by assumption) | exact Or.inr (by assumption) | exact Or.inr (Or.inl (by assumption)) | exact Or.inr (Or.inr (by assumption)) | (simp only [Int32.lt_iff_toInt_lt, Int32.le_iff_toInt_le, i32_0, i32_1, i32_2, i32_3, i32_4, i32_9, i32_10, i32_99, i32_100, i32_1000, i32_9999] at *; omega))] | rw [if_neg (by first | assumption | (rintro (h9 | h9 | h9) <;> contradiction) | (rintro (h9 | h9) <;> contradiction) | (intro h9; exact Bool.noConfusion (Eq.trans (c := false) h9.symm (by assumption))) | (rintro ⟨h8, h9⟩; exact Bool.noConfusion (Eq.trans (c := false) h8.symm (by assumption))) | (rintro ⟨h8, h9⟩; exact Bool.noConfusion (Eq.trans (c := false) h9.symm (by assumption))) | (simp only [Int32.lt_iff_toInt_lt, Int32.le_iff_toInt_le, i32_0, i32_1, i32_2, i32_3, i32_4, i32_9, i32_10, i32_99, i32_100, i32_1000, i32_9999] at *; omega))])); (try rfl); (try (dsimp only; rw [c_8]; rfl))), ⟨by rw [ht]; exact hP, va_K.moved hW.alike hK, hD⟩⟩, hS.F ht⟩) hS.2.2 dX13_sets_70 hlocks
        · skip
          have c_17 : b = true := bI_1 c_17
          refine lv_iconst (v := 1) hx hb dX13_sets_44 (by decide) ?_
          refine lv_goto (tgt := 49) hx hb dX13_sets_45 (by decide) ?_
          refine lv_icmp_eq (tgt := 68) hx hb dX13_sets_49 (by decide) (fun c_22 => ?_) (fun c_22 => ?_)
          · skip
            refine lv_iload hx hb dX13_sets_68 (lv_at hl 0 rfl) ?_
            have e_23 : (th : Int32) = (opSets v n th (nI j) (nI i) b).2.1 := by first | (with_reducible rfl) | ((try simp only [opSets, clj, cli]); (repeat (first | rw [if_pos (by first | assumption | exact Eq.trans (b := false) (by assumption) (Eq.symm (by assumption)) | exact Eq.trans (b := true) (by assumption) (Eq.symm (by assumption)) | exact ⟨by assumption, by assumption⟩ | exact Or.inl (by assumption) | exact Or.inr (by assumption) | exact Or.inr (Or.inl (by assumption)) | exact Or.inr (Or.inr (by assumption)) | (simp only [Int32.lt_iff_toInt_lt, Int32.le_iff_toInt_le, i32_0, i32_1, i32_2, i32_3, i32_4, i32_9, i32_10, i32_99, i32_100, i32_1000, i32_9999] at *; omega))] | rw [if_neg (by first | assumption | (rintro (h9 | h9 | h9) <;> contradiction) | (rintro (h9 | h9) <;> contradiction) | (intro h9; exact Bool.noConfusion (Eq.trans (c := false) h9.symm (by assumption))) | (rintro ⟨h8, h9⟩; exact Bool.noConfusion (Eq.trans (c := false) h8.symm (by assumption))) | (rintro ⟨h8, h9⟩; exact Bool.noConfusion (Eq.trans (c := false) h9.symm (by assumption))) | (simp only [Int32.lt_iff_toInt_lt, Int32.le_iff_toInt_le, i32_0, i32_1, i32_2, i32_3, i32_4, i32_9, i32_10, i32_99, i32_100, i32_1000, i32_9999] at *; omega))])); (try rfl); (try (dsimp only; rw [c_8]; rfl)))
            have hP := Eq.mp (congrArg (fun z9 => va_P D vwCl (bMO k q z9 ea fa ch tn he en ln sv wr dg ++ bI83 k (q 1) v) H) e_23) hP
            have hD := Eq.mp (congrArg (fun z9 => va_D A (bMO k q z9 ea fa ch tn he en ln sv wr dg ++ bI83 k (q 1) v)) e_23) hD
            have e_24 : (v : Nat → Int32) = (opSets v n th (nI j) (nI i) b).2.2 := by first | (with_reducible rfl) | ((try simp only [opSets, clj, cli]); (repeat (first | rw [if_pos (by first | assumption | exact Eq.trans (b := false) (by assumption) (Eq.symm (by assumption)) | exact Eq.trans (b := true) (by assumption) (Eq.symm (by assumption)) | exact ⟨by assumption, by assumption⟩ | exact Or.inl (by assumption) | exact Or.inr (by assumption) | exact Or.inr (Or.inl (by assumption)) | exact Or.inr (Or.inr (by assumption)) | (simp only [Int32.lt_iff_toInt_lt, Int32.le_iff_toInt_le, i32_0, i32_1, i32_2, i32_3, i32_4, i32_9, i32_10, i32_99, i32_100, i32_1000, i32_9999] at *; omega))] | rw [if_neg (by first | assumption | (rintro (h9 | h9 | h9) <;> contradiction) | (rintro (h9 | h9) <;> contradiction) | (intro h9; exact Bool.noConfusion (Eq.trans (c := false) h9.symm (by assumption))) | (rintro ⟨h8, h9⟩; exact Bool.noConfusion (Eq.trans (c := false) h8.symm (by assumption))) | (rintro ⟨h8, h9⟩; exact Bool.noConfusion (Eq.trans (c := false) h9.symm (by assumption))) | (simp only [Int32.lt_iff_toInt_lt, Int32.le_iff_toInt_le, i32_0, i32_1, i32_2, i32_3, i32_4, i32_9, i32_10, i32_99, i32_100, i32_1000, i32_9999] at *; omega))])); (try rfl); (try (dsimp only; rw [c_8]; rfl)))
            have hP := Eq.mp (congrArg (fun z9 => va_P D vwCl (bMO k q ((opSets v n th (nI j) (nI i) b).2.1) ea fa ch tn he en ln sv wr dg ++ bI83 k (q 1) z9) H) e_24) hP
            have hD := Eq.mp (congrArg (fun z9 => va_D A (bMO k q ((opSets v n th (nI j) (nI i) b).2.1) ea fa ch tn he en ln sv wr dg ++ bI83 k (q 1) z9)) e_24) hD
            exact W.iret (v := 1) hx hb hr (fun t9 ht hW => ⟨⟨_, (), rfl, (by (try simp only [opSets, clj, cli]); (repeat (first | rw [if_pos (by first | assumption | exact Eq.trans (b := false) (by assumption) (Eq.symm (by assumption)) | exact Eq.trans (b := true) (by assumption) (Eq.symm (by assumption)) | exact ⟨by assumption, by assumption⟩ | exact Or.inl (by assumption) | exact Or.inr (by assumption) | exact Or.inr (Or.inl (by assumption)) | exact Or.inr (Or.inr (by assumption)) | (simp only [Int32.lt_iff_toInt_lt, Int32.le_iff_toInt_le, i32_0, i32_1, i32_2, i32_3, i32_4, i32_9, i32_10, i32_99, i32_100, i32_1000, i32_9999] at *; omega))] | rw [if_neg (by first | assumption | (rintro (h9 | h9 | h9) <;> contradiction) | (rintro (h9 | h9) <;> contradiction) | (intro h9; exact Bool.noConfusion (Eq.trans (c := false) h9.symm (by assumption))) | (rintro ⟨h8, h9⟩; exact Bool.noConfusion (Eq.trans (c := false) h8.symm (by assumption))) | (rintro ⟨h8, h9⟩; exact Bool.noConfusion (Eq.trans (c := false) h9.symm (by assumption))) | (simp only [Int32.lt_iff_toInt_lt, Int32.le_iff_toInt_le, i32_0, i32_1, i32_2, i32_3, i32_4, i32_9, i32_10, i32_99, i32_100, i32_1000, i32_9999] at *; omega))])); (try rfl); (try (dsimp only; rw [c_8]; rfl))), ⟨by rw [ht]; exact hP, va_K.moved hW.alike hK, hD⟩⟩, hS.F ht⟩) hS.2.2 dX13_sets_70 hlocks
          · first | exact absurd c_22 (by decide) | exact absurd (by decide) c_22
    · skip
      have c_6 : (inC n y) = false := bI_0 c_6
      refine lv_aload_n hx hb dX13_sets_16 rfl (lv_at hl 0 rfl) ?_
      refine lv_iconst (v := 1) hx hb dX13_sets_17 (by decide) ?_
      have hFc := va_free (wc := bMO k q th ea fa ch tn he en ln sv wr dg) hD hS hA [0] rfl
      refine va_calli (va_runV (As := [.int 1]) (rest := []) hF (m_X13_fail l9 D k H.size q th ea fa ch tn he en ln sv wr dg 1 ) (cwV 1 hts gX13_sets_X13_fail rfl rfl rfl (by decide +kernel) ⟨Nat.le_of_ble_eq_true rfl, Nat.le_of_ble_eq_true rfl⟩) (wPreV hK hN hP hD [0] rfl (by decide) rfl 0 11 rfl rfl) rfl rfl hl.1 rfl (lv_room (Nat.le_of_ble_eq_true rfl)) dX13_sets_18 ⟨Nat.zero_le _, Nat.zero_le _⟩) hS (fun q _ h => hFc q h) hFc (fun r u9 t9 H1 locs ht hvm hw hB hz1 hk1 hS => ?_)
      obtain ⟨hP, hD⟩ := wjoin (wr := bI83 k (q 1) v) (wf := bMO k q 1 ea fa ch tn he en ln sv wr dg ++ bI83 k (q 1) v) hP hD [0] [1] [1, 0] rfl rfl (by decide) (by decide) hk1 hFc hB ht rfl rfl (by decide)
      subst hw
      clear hB hk1 hz1 hvm hFc
      clear ht
      clear t9
      generalize H1 = H at hP hS ⊢
      have e_25 : (1 : Int32) = (opSets v n th (nI j) y b).2.1 := by first | (with_reducible rfl) | ((try simp only [opSets, clj]); (repeat (first | rw [if_pos (by first | assumption | exact Eq.trans (b := false) (by assumption) (Eq.symm (by assumption)) | exact Eq.trans (b := true) (by assumption) (Eq.symm (by assumption)) | exact ⟨by assumption, by assumption⟩ | exact Or.inl (by assumption) | exact Or.inr (by assumption) | exact Or.inr (Or.inl (by assumption)) | exact Or.inr (Or.inr (by assumption)) | (simp only [Int32.lt_iff_toInt_lt, Int32.le_iff_toInt_le, i32_0, i32_1, i32_2, i32_3, i32_4, i32_9, i32_10, i32_99, i32_100, i32_1000, i32_9999] at *; omega))] | rw [if_neg (by first | assumption | (rintro (h9 | h9 | h9) <;> contradiction) | (rintro (h9 | h9) <;> contradiction) | (intro h9; exact Bool.noConfusion (Eq.trans (c := false) h9.symm (by assumption))) | (rintro ⟨h8, h9⟩; exact Bool.noConfusion (Eq.trans (c := false) h8.symm (by assumption))) | (rintro ⟨h8, h9⟩; exact Bool.noConfusion (Eq.trans (c := false) h9.symm (by assumption))) | (simp only [Int32.lt_iff_toInt_lt, Int32.le_iff_toInt_le, i32_0, i32_1, i32_2, i32_3, i32_4, i32_9, i32_10, i32_99, i32_100, i32_1000, i32_9999] at *; omega))])); (try rfl))
      have hP := Eq.mp (congrArg (fun z9 => va_P D vwCl (bMO k q z9 ea fa ch tn he en ln sv wr dg ++ bI83 k (q 1) v) H) e_25) hP
      have hD := Eq.mp (congrArg (fun z9 => va_D A (bMO k q z9 ea fa ch tn he en ln sv wr dg ++ bI83 k (q 1) v)) e_25) hD
      have e_26 : (v : Nat → Int32) = (opSets v n th (nI j) y b).2.2 := by first | (with_reducible rfl) | ((try simp only [opSets, clj]); (repeat (first | rw [if_pos (by first | assumption | exact Eq.trans (b := false) (by assumption) (Eq.symm (by assumption)) | exact Eq.trans (b := true) (by assumption) (Eq.symm (by assumption)) | exact ⟨by assumption, by assumption⟩ | exact Or.inl (by assumption) | exact Or.inr (by assumption) | exact Or.inr (Or.inl (by assumption)) | exact Or.inr (Or.inr (by assumption)) | (simp only [Int32.lt_iff_toInt_lt, Int32.le_iff_toInt_le, i32_0, i32_1, i32_2, i32_3, i32_4, i32_9, i32_10, i32_99, i32_100, i32_1000, i32_9999] at *; omega))] | rw [if_neg (by first | assumption | (rintro (h9 | h9 | h9) <;> contradiction) | (rintro (h9 | h9) <;> contradiction) | (intro h9; exact Bool.noConfusion (Eq.trans (c := false) h9.symm (by assumption))) | (rintro ⟨h8, h9⟩; exact Bool.noConfusion (Eq.trans (c := false) h8.symm (by assumption))) | (rintro ⟨h8, h9⟩; exact Bool.noConfusion (Eq.trans (c := false) h9.symm (by assumption))) | (simp only [Int32.lt_iff_toInt_lt, Int32.le_iff_toInt_le, i32_0, i32_1, i32_2, i32_3, i32_4, i32_9, i32_10, i32_99, i32_100, i32_1000, i32_9999] at *; omega))])); (try rfl))
      have hP := Eq.mp (congrArg (fun z9 => va_P D vwCl (bMO k q ((opSets v n th (nI j) y b).2.1) ea fa ch tn he en ln sv wr dg ++ bI83 k (q 1) z9) H) e_26) hP
      have hD := Eq.mp (congrArg (fun z9 => va_D A (bMO k q ((opSets v n th (nI j) y b).2.1) ea fa ch tn he en ln sv wr dg ++ bI83 k (q 1) z9)) e_26) hD
      exact W.iret (v := 0) hx hb hr (fun t9 ht hW => ⟨⟨_, (), rfl, (by (try simp only [opSets, clj]); (repeat (first | rw [if_pos (by first | assumption | exact Eq.trans (b := false) (by assumption) (Eq.symm (by assumption)) | exact Eq.trans (b := true) (by assumption) (Eq.symm (by assumption)) | exact ⟨by assumption, by assumption⟩ | exact Or.inl (by assumption) | exact Or.inr (by assumption) | exact Or.inr (Or.inl (by assumption)) | exact Or.inr (Or.inr (by assumption)) | (simp only [Int32.lt_iff_toInt_lt, Int32.le_iff_toInt_le, i32_0, i32_1, i32_2, i32_3, i32_4, i32_9, i32_10, i32_99, i32_100, i32_1000, i32_9999] at *; omega))] | rw [if_neg (by first | assumption | (rintro (h9 | h9 | h9) <;> contradiction) | (rintro (h9 | h9) <;> contradiction) | (intro h9; exact Bool.noConfusion (Eq.trans (c := false) h9.symm (by assumption))) | (rintro ⟨h8, h9⟩; exact Bool.noConfusion (Eq.trans (c := false) h8.symm (by assumption))) | (rintro ⟨h8, h9⟩; exact Bool.noConfusion (Eq.trans (c := false) h9.symm (by assumption))) | (simp only [Int32.lt_iff_toInt_lt, Int32.le_iff_toInt_le, i32_0, i32_1, i32_2, i32_3, i32_4, i32_9, i32_10, i32_99, i32_100, i32_1000, i32_9999] at *; omega))])); (try rfl)), ⟨by rw [ht]; exact hP, va_K.moved hW.alike hK, hD⟩⟩, hS.F ht⟩) hS.2.2 dX13_sets_21 hlocks

set_option maxHeartbeats 4000000 in
set_option maxRecDepth 100000 in
theorem m_X13_moves (l9 : Launch) (D : va_G) (k : Nat → ClassId) (sz : Nat) (q : Nat → Nat) (th ea fa : Int32) (ch tn he en ln : Nat) (sv wr dg : Bool) (v : Nat → Int32) (n : Nat) (x y : Int32) (hn : n ≤ 10) (hv0 : v 0 = nI n) : Met l9 yX13_moves wsX13_moves ({ frames := 2, cells := 0, slots := 0, locals := 43 }) (WPc D k [.ref (q 0), .int x, .int y] (bMO k q th ea fa ch tn he en ln sv wr dg ++ bI83 k (q 1) v) sz) (WI D k (bMO k q ((opMoves v n th x y).2.1) ea fa ch tn he en ln sv wr dg ++ bI83 k (q 1) ((opMoves v n th x y).2.2)) ((opMoves v n th x y).1) (va_A (bMO k q th ea fa ch tn he en ln sv wr dg ++ bI83 k (q 1) v) sz)) 0 0 (va_A (bMO k q th ea fa ch tn he en ln sv wr dg ++ bI83 k (q 1) v) sz) := by
  refine wMet (y := yX13_moves) (cc := cX13_moves) (maxL := 4) (ret := (some .int)) (Qc := fun A => WI D k (bMO k q ((opMoves v n th x y).2.1) ea fa ch tn he en ln sv wr dg ++ bI83 k (q 1) ((opMoves v n th x y).2.2)) ((opMoves v n th x y).1) A) [.ref (q 0), .int x, .int y] (by decide) rfl (Nat.le_of_ble_eq_true rfl) ?_
  intro p9 e9 s9 m9 bl9 me9 c9 ls A H hF hr hlocks hP hK hN hD hA hS hl hin
  have hl : lv_has ls 4 [(0, .ref (q 0)), (1, .int x), (2, .int y)] := hl
  obtain ⟨hx, hb, hml, hown, hts⟩ := id hF
  have k_fieldLink_16 : (Cond.fieldLink RX13 16 "OpinionReactorModel" "v" "[I").before _ s9 = true := hts (.fieldLink RX13 16 "OpinionReactorModel" "v" "[I") (by decide +kernel)
  have kc_RX13 : ∀ w ∈ u_ws RX13 TX13 29, w ∈ wsX13_moves := by decide +kernel
  refine lv_aload_n hx hb dX13_moves_0 rfl (lv_at hl 0 rfl) ?_
  refine lv_iload_n hx hb dX13_moves_1 rfl (lv_at hl 1 rfl) ?_
  refine vp_callSi (W.runV (As := [.int x]) (rest := []) hF (m_X13_isClaim l9 D k q th ea fa ch tn he en ln sv wr dg v n x hn hv0) (cwV 1 hts gX13_moves_X13_isClaim rfl rfl rfl (by decide +kernel) ⟨Nat.le_of_ble_eq_true rfl, Nat.le_of_ble_eq_true rfl⟩) (rPreV hK hN hP [0, 1] rfl 0 11 rfl rfl) rfl rfl hl.1 rfl (lv_room (Nat.le_of_ble_eq_true rfl)) dX13_moves_2 ⟨Nat.zero_le _, Nat.zero_le _⟩) (fun r_1 hr_1 => ?_)
  subst hr_1
  refine lv_if_eq (tgt := 17) hx hb dX13_moves_5 (by decide) (fun c_2 => ?_) (fun c_2 => ?_)
  · skip
    have c_2 : (inC n x) = false := bI_0 c_2
    refine lv_aload_n hx hb dX13_moves_17 rfl (lv_at hl 0 rfl) ?_
    refine lv_iconst (v := 1) hx hb dX13_moves_18 (by decide) ?_
    have hFc := va_free (wc := bMO k q th ea fa ch tn he en ln sv wr dg) hD hS hA [0] rfl
    refine va_calli (va_runV (As := [.int 1]) (rest := []) hF (m_X13_fail l9 D k H.size q th ea fa ch tn he en ln sv wr dg 1 ) (cwV 1 hts gX13_moves_X13_fail rfl rfl rfl (by decide +kernel) ⟨Nat.le_of_ble_eq_true rfl, Nat.le_of_ble_eq_true rfl⟩) (wPreV hK hN hP hD [0] rfl (by decide) rfl 0 11 rfl rfl) rfl rfl hl.1 rfl (lv_room (Nat.le_of_ble_eq_true rfl)) dX13_moves_19 ⟨Nat.zero_le _, Nat.zero_le _⟩) hS (fun q _ h => hFc q h) hFc (fun r u9 t9 H1 locs ht hvm hw hB hz1 hk1 hS => ?_)
    obtain ⟨hP, hD⟩ := wjoin (wr := bI83 k (q 1) v) (wf := bMO k q 1 ea fa ch tn he en ln sv wr dg ++ bI83 k (q 1) v) hP hD [0] [1] [1, 0] rfl rfl (by decide) (by decide) hk1 hFc hB ht rfl rfl (by decide)
    subst hw
    clear hB hk1 hz1 hvm hFc
    clear ht
    clear t9
    generalize H1 = H at hP hS ⊢
    have e_3 : (1 : Int32) = (opMoves v n th x y).2.1 := by first | (with_reducible rfl) | ((try simp only [opMoves]); (repeat (first | rw [if_pos (by first | assumption | exact Eq.trans (b := false) (by assumption) (Eq.symm (by assumption)) | exact Eq.trans (b := true) (by assumption) (Eq.symm (by assumption)) | exact ⟨by assumption, by assumption⟩ | exact Or.inl (by assumption) | exact Or.inr (by assumption) | exact Or.inr (Or.inl (by assumption)) | exact Or.inr (Or.inr (by assumption)) | (simp only [Int32.lt_iff_toInt_lt, Int32.le_iff_toInt_le, i32_0, i32_1, i32_2, i32_3, i32_4, i32_9, i32_10, i32_99, i32_100, i32_1000, i32_9999] at *; omega))] | rw [if_neg (by first | assumption | (rintro (h9 | h9 | h9) <;> contradiction) | (rintro (h9 | h9) <;> contradiction) | (intro h9; exact Bool.noConfusion (Eq.trans (c := false) h9.symm (by assumption))) | (rintro ⟨h8, h9⟩; exact Bool.noConfusion (Eq.trans (c := false) h8.symm (by assumption))) | (rintro ⟨h8, h9⟩; exact Bool.noConfusion (Eq.trans (c := false) h9.symm (by assumption))) | (simp only [Int32.lt_iff_toInt_lt, Int32.le_iff_toInt_le, i32_0, i32_1, i32_2, i32_3, i32_4, i32_9, i32_10, i32_99, i32_100, i32_1000, i32_9999] at *; omega))])); (try rfl))
    have hP := Eq.mp (congrArg (fun z9 => va_P D vwCl (bMO k q z9 ea fa ch tn he en ln sv wr dg ++ bI83 k (q 1) v) H) e_3) hP
    have hD := Eq.mp (congrArg (fun z9 => va_D A (bMO k q z9 ea fa ch tn he en ln sv wr dg ++ bI83 k (q 1) v)) e_3) hD
    have e_4 : (v : Nat → Int32) = (opMoves v n th x y).2.2 := by first | (with_reducible rfl) | ((try simp only [opMoves]); (repeat (first | rw [if_pos (by first | assumption | exact Eq.trans (b := false) (by assumption) (Eq.symm (by assumption)) | exact Eq.trans (b := true) (by assumption) (Eq.symm (by assumption)) | exact ⟨by assumption, by assumption⟩ | exact Or.inl (by assumption) | exact Or.inr (by assumption) | exact Or.inr (Or.inl (by assumption)) | exact Or.inr (Or.inr (by assumption)) | (simp only [Int32.lt_iff_toInt_lt, Int32.le_iff_toInt_le, i32_0, i32_1, i32_2, i32_3, i32_4, i32_9, i32_10, i32_99, i32_100, i32_1000, i32_9999] at *; omega))] | rw [if_neg (by first | assumption | (rintro (h9 | h9 | h9) <;> contradiction) | (rintro (h9 | h9) <;> contradiction) | (intro h9; exact Bool.noConfusion (Eq.trans (c := false) h9.symm (by assumption))) | (rintro ⟨h8, h9⟩; exact Bool.noConfusion (Eq.trans (c := false) h8.symm (by assumption))) | (rintro ⟨h8, h9⟩; exact Bool.noConfusion (Eq.trans (c := false) h9.symm (by assumption))) | (simp only [Int32.lt_iff_toInt_lt, Int32.le_iff_toInt_le, i32_0, i32_1, i32_2, i32_3, i32_4, i32_9, i32_10, i32_99, i32_100, i32_1000, i32_9999] at *; omega))])); (try rfl))
    have hP := Eq.mp (congrArg (fun z9 => va_P D vwCl (bMO k q ((opMoves v n th x y).2.1) ea fa ch tn he en ln sv wr dg ++ bI83 k (q 1) z9) H) e_4) hP
    have hD := Eq.mp (congrArg (fun z9 => va_D A (bMO k q ((opMoves v n th x y).2.1) ea fa ch tn he en ln sv wr dg ++ bI83 k (q 1) z9)) e_4) hD
    exact W.iret (v := 0) hx hb hr (fun t9 ht hW => ⟨⟨_, (), rfl, (by (try simp only [opMoves]); (repeat (first | rw [if_pos (by first | assumption | exact Eq.trans (b := false) (by assumption) (Eq.symm (by assumption)) | exact Eq.trans (b := true) (by assumption) (Eq.symm (by assumption)) | exact ⟨by assumption, by assumption⟩ | exact Or.inl (by assumption) | exact Or.inr (by assumption) | exact Or.inr (Or.inl (by assumption)) | exact Or.inr (Or.inr (by assumption)) | (simp only [Int32.lt_iff_toInt_lt, Int32.le_iff_toInt_le, i32_0, i32_1, i32_2, i32_3, i32_4, i32_9, i32_10, i32_99, i32_100, i32_1000, i32_9999] at *; omega))] | rw [if_neg (by first | assumption | (rintro (h9 | h9 | h9) <;> contradiction) | (rintro (h9 | h9) <;> contradiction) | (intro h9; exact Bool.noConfusion (Eq.trans (c := false) h9.symm (by assumption))) | (rintro ⟨h8, h9⟩; exact Bool.noConfusion (Eq.trans (c := false) h8.symm (by assumption))) | (rintro ⟨h8, h9⟩; exact Bool.noConfusion (Eq.trans (c := false) h9.symm (by assumption))) | (simp only [Int32.lt_iff_toInt_lt, Int32.le_iff_toInt_le, i32_0, i32_1, i32_2, i32_3, i32_4, i32_9, i32_10, i32_99, i32_100, i32_1000, i32_9999] at *; omega))])); (try rfl)), ⟨by rw [ht]; exact hP, va_K.moved hW.alike hK, hD⟩⟩, hS.F ht⟩) hS.2.2 dX13_moves_22 hlocks
  · skip
    have c_2 : (inC n x) = true := bI_1 c_2
    obtain ⟨j, hj, rfl⟩ := inC_of hn c_2
    have clj : (nI j).toNatClampNeg = j := clN (by omega)
    refine lv_iload_n hx hb dX13_moves_8 rfl (lv_at hl 2 rfl) ?_
    refine lv_iconst (v := 0) hx hb dX13_moves_9 (by decide) ?_
    refine lv_iconst (v := 3) hx hb dX13_moves_10 (by decide) ?_
    refine vp_callSi (W.runS (As := [.int y, .int 0, .int 3]) (rest := []) hF (m_X13_isIn l9 D k y 0 3 ) (va_cwS 3 hts gX13_moves_X13_isIn rfl rfl rfl (by decide +kernel) ⟨Nat.le_of_ble_eq_true rfl, Nat.le_of_ble_eq_true rfl⟩) (rPreS hK hN hP [] rfl) rfl rfl hl.1 rfl (lv_room (Nat.le_of_ble_eq_true rfl)) dX13_moves_11 ⟨Nat.zero_le _, Nat.zero_le _⟩) (fun r_5 hr_5 => ?_)
    subst hr_5
    refine lv_if_ne (tgt := 23) hx hb dX13_moves_14 (by decide) (fun c_6 => ?_) (fun c_6 => ?_)
    · skip
      have c_6 : (rg 0 y 3) = true := bI_1 c_6
      refine lv_aload_n hx hb dX13_moves_23 rfl (lv_at hl 0 rfl) ?_
      refine va_get (D := D) (ci := 11) (v := .ref (q 1)) (C := RX13) (T := TX13) (N := 29) hx hb hts kc_RX13 hown hK hP 0 rfl rfl 5 (by decide) k_fieldLink_16 (fun _ h9 => h9) rfl dX13_moves_24 ?_
      refine lv_iload_n hx hb dX13_moves_27 rfl (lv_at hl 1 rfl) ?_
      refine lv_iconst (v := 1) hx hb dX13_moves_28 (by decide) ?_
      refine vp_callSi (W.runS (As := [.int (nI j), .int 1]) (rest := [.ref (q 1)]) hF (m_X13_of l9 D k j 1 ) (va_cwS 2 hts gX13_moves_X13_of rfl rfl rfl (by decide +kernel) ⟨Nat.le_of_ble_eq_true rfl, Nat.le_of_ble_eq_true rfl⟩) (rPreS hK hN hP [] rfl) rfl rfl hl.1 rfl (lv_room (Nat.le_of_ble_eq_true rfl)) dX13_moves_29 ⟨Nat.zero_le _, Nat.zero_le _⟩) (fun r_7 hr_7 => ?_)
      subst hr_7
      refine ia_ld hx hb hK hP 1 rfl (5 + 3 * j + 1) (by omega) (by decide) dX13_moves_32 ?_
      refine lv_istore_n (lv' := [(3, .int (v (5 + 3 * j + 1))), (0, .ref (q 0)), (1, .int (nI j)), (2, .int y)]) hx hb dX13_moves_33 rfl hl (by decide) rfl (fun ls hl => ?_)
      refine lv_aload_n hx hb dX13_moves_34 rfl (lv_at hl 1 rfl) ?_
      refine va_get (D := D) (ci := 11) (v := .ref (q 1)) (C := RX13) (T := TX13) (N := 29) hx hb hts kc_RX13 hown hK hP 0 rfl rfl 5 (by decide) k_fieldLink_16 (fun _ h9 => h9) rfl dX13_moves_35 ?_
      refine lv_iload_n hx hb dX13_moves_38 rfl (lv_at hl 2 rfl) ?_
      refine lv_iconst (v := 1) hx hb dX13_moves_39 (by decide) ?_
      refine vp_callSi (W.runS (As := [.int (nI j), .int 1]) (rest := [.ref (q 1)]) hF (m_X13_of l9 D k j 1 ) (va_cwS 2 hts gX13_moves_X13_of rfl rfl rfl (by decide +kernel) ⟨Nat.le_of_ble_eq_true rfl, Nat.le_of_ble_eq_true rfl⟩) (rPreS hK hN hP [] rfl) rfl rfl hl.1 rfl (lv_room (Nat.le_of_ble_eq_true rfl)) dX13_moves_40 ⟨Nat.zero_le _, Nat.zero_le _⟩) (fun r_8 hr_8 => ?_)
      subst hr_8
      refine lv_iload_n hx hb dX13_moves_43 rfl (lv_at hl 3 rfl) ?_
      refine ia_st hx hb hK hP hD hS 1 rfl (5 + 3 * j + 1) (by omega) (by decide) (bMO k q th ea fa ch tn he en ln sv wr dg ++ bI83 k (q 1) (upd v (5 + 3 * j + 1) y)) rfl dX13_moves_44 (fun H locs hP hD hS => ?_)
      refine lv_iload_n hx hb dX13_moves_45 rfl (lv_at hl 0 rfl) ?_
      have e_9 : (th : Int32) = (opMoves v n th (nI j) y).2.1 := by first | (with_reducible rfl) | ((try simp only [opMoves, clj]); (repeat (first | rw [if_pos (by first | assumption | exact Eq.trans (b := false) (by assumption) (Eq.symm (by assumption)) | exact Eq.trans (b := true) (by assumption) (Eq.symm (by assumption)) | exact ⟨by assumption, by assumption⟩ | exact Or.inl (by assumption) | exact Or.inr (by assumption) | exact Or.inr (Or.inl (by assumption)) | exact Or.inr (Or.inr (by assumption)) | (simp only [Int32.lt_iff_toInt_lt, Int32.le_iff_toInt_le, i32_0, i32_1, i32_2, i32_3, i32_4, i32_9, i32_10, i32_99, i32_100, i32_1000, i32_9999] at *; omega))] | rw [if_neg (by first | assumption | (rintro (h9 | h9 | h9) <;> contradiction) | (rintro (h9 | h9) <;> contradiction) | (intro h9; exact Bool.noConfusion (Eq.trans (c := false) h9.symm (by assumption))) | (rintro ⟨h8, h9⟩; exact Bool.noConfusion (Eq.trans (c := false) h8.symm (by assumption))) | (rintro ⟨h8, h9⟩; exact Bool.noConfusion (Eq.trans (c := false) h9.symm (by assumption))) | (simp only [Int32.lt_iff_toInt_lt, Int32.le_iff_toInt_le, i32_0, i32_1, i32_2, i32_3, i32_4, i32_9, i32_10, i32_99, i32_100, i32_1000, i32_9999] at *; omega))])); (try rfl))
      have hP := Eq.mp (congrArg (fun z9 => va_P D vwCl (bMO k q z9 ea fa ch tn he en ln sv wr dg ++ bI83 k (q 1) (upd v (5 + 3 * j + 1) y)) H) e_9) hP
      have hD := Eq.mp (congrArg (fun z9 => va_D A (bMO k q z9 ea fa ch tn he en ln sv wr dg ++ bI83 k (q 1) (upd v (5 + 3 * j + 1) y))) e_9) hD
      have e_10 : (upd v (5 + 3 * j + 1) y : Nat → Int32) = (opMoves v n th (nI j) y).2.2 := by first | (with_reducible rfl) | ((try simp only [opMoves, clj]); (repeat (first | rw [if_pos (by first | assumption | exact Eq.trans (b := false) (by assumption) (Eq.symm (by assumption)) | exact Eq.trans (b := true) (by assumption) (Eq.symm (by assumption)) | exact ⟨by assumption, by assumption⟩ | exact Or.inl (by assumption) | exact Or.inr (by assumption) | exact Or.inr (Or.inl (by assumption)) | exact Or.inr (Or.inr (by assumption)) | (simp only [Int32.lt_iff_toInt_lt, Int32.le_iff_toInt_le, i32_0, i32_1, i32_2, i32_3, i32_4, i32_9, i32_10, i32_99, i32_100, i32_1000, i32_9999] at *; omega))] | rw [if_neg (by first | assumption | (rintro (h9 | h9 | h9) <;> contradiction) | (rintro (h9 | h9) <;> contradiction) | (intro h9; exact Bool.noConfusion (Eq.trans (c := false) h9.symm (by assumption))) | (rintro ⟨h8, h9⟩; exact Bool.noConfusion (Eq.trans (c := false) h8.symm (by assumption))) | (rintro ⟨h8, h9⟩; exact Bool.noConfusion (Eq.trans (c := false) h9.symm (by assumption))) | (simp only [Int32.lt_iff_toInt_lt, Int32.le_iff_toInt_le, i32_0, i32_1, i32_2, i32_3, i32_4, i32_9, i32_10, i32_99, i32_100, i32_1000, i32_9999] at *; omega))])); (try rfl))
      have hP := Eq.mp (congrArg (fun z9 => va_P D vwCl (bMO k q ((opMoves v n th (nI j) y).2.1) ea fa ch tn he en ln sv wr dg ++ bI83 k (q 1) z9) H) e_10) hP
      have hD := Eq.mp (congrArg (fun z9 => va_D A (bMO k q ((opMoves v n th (nI j) y).2.1) ea fa ch tn he en ln sv wr dg ++ bI83 k (q 1) z9)) e_10) hD
      exact W.iret (v := v (5 + 3 * j + 1)) hx hb hr (fun t9 ht hW => ⟨⟨_, (), rfl, (by (try simp only [opMoves, clj]); (repeat (first | rw [if_pos (by first | assumption | exact Eq.trans (b := false) (by assumption) (Eq.symm (by assumption)) | exact Eq.trans (b := true) (by assumption) (Eq.symm (by assumption)) | exact ⟨by assumption, by assumption⟩ | exact Or.inl (by assumption) | exact Or.inr (by assumption) | exact Or.inr (Or.inl (by assumption)) | exact Or.inr (Or.inr (by assumption)) | (simp only [Int32.lt_iff_toInt_lt, Int32.le_iff_toInt_le, i32_0, i32_1, i32_2, i32_3, i32_4, i32_9, i32_10, i32_99, i32_100, i32_1000, i32_9999] at *; omega))] | rw [if_neg (by first | assumption | (rintro (h9 | h9 | h9) <;> contradiction) | (rintro (h9 | h9) <;> contradiction) | (intro h9; exact Bool.noConfusion (Eq.trans (c := false) h9.symm (by assumption))) | (rintro ⟨h8, h9⟩; exact Bool.noConfusion (Eq.trans (c := false) h8.symm (by assumption))) | (rintro ⟨h8, h9⟩; exact Bool.noConfusion (Eq.trans (c := false) h9.symm (by assumption))) | (simp only [Int32.lt_iff_toInt_lt, Int32.le_iff_toInt_le, i32_0, i32_1, i32_2, i32_3, i32_4, i32_9, i32_10, i32_99, i32_100, i32_1000, i32_9999] at *; omega))])); (try rfl)), ⟨by rw [ht]; exact hP, va_K.moved hW.alike hK, hD⟩⟩, hS.F ht⟩) hS.2.2 dX13_moves_46 hlocks
    · skip
      have c_6 : (rg 0 y 3) = false := bI_0 c_6
      refine lv_aload_n hx hb dX13_moves_17 rfl (lv_at hl 0 rfl) ?_
      refine lv_iconst (v := 1) hx hb dX13_moves_18 (by decide) ?_
      have hFc := va_free (wc := bMO k q th ea fa ch tn he en ln sv wr dg) hD hS hA [0] rfl
      refine va_calli (va_runV (As := [.int 1]) (rest := []) hF (m_X13_fail l9 D k H.size q th ea fa ch tn he en ln sv wr dg 1 ) (cwV 1 hts gX13_moves_X13_fail rfl rfl rfl (by decide +kernel) ⟨Nat.le_of_ble_eq_true rfl, Nat.le_of_ble_eq_true rfl⟩) (wPreV hK hN hP hD [0] rfl (by decide) rfl 0 11 rfl rfl) rfl rfl hl.1 rfl (lv_room (Nat.le_of_ble_eq_true rfl)) dX13_moves_19 ⟨Nat.zero_le _, Nat.zero_le _⟩) hS (fun q _ h => hFc q h) hFc (fun r u9 t9 H1 locs ht hvm hw hB hz1 hk1 hS => ?_)
      obtain ⟨hP, hD⟩ := wjoin (wr := bI83 k (q 1) v) (wf := bMO k q 1 ea fa ch tn he en ln sv wr dg ++ bI83 k (q 1) v) hP hD [0] [1] [1, 0] rfl rfl (by decide) (by decide) hk1 hFc hB ht rfl rfl (by decide)
      subst hw
      clear hB hk1 hz1 hvm hFc
      clear ht
      clear t9
      generalize H1 = H at hP hS ⊢
      have e_11 : (1 : Int32) = (opMoves v n th (nI j) y).2.1 := by first | (with_reducible rfl) | ((try simp only [opMoves, clj]); (repeat (first | rw [if_pos (by first | assumption | exact Eq.trans (b := false) (by assumption) (Eq.symm (by assumption)) | exact Eq.trans (b := true) (by assumption) (Eq.symm (by assumption)) | exact ⟨by assumption, by assumption⟩ | exact Or.inl (by assumption) | exact Or.inr (by assumption) | exact Or.inr (Or.inl (by assumption)) | exact Or.inr (Or.inr (by assumption)) | (simp only [Int32.lt_iff_toInt_lt, Int32.le_iff_toInt_le, i32_0, i32_1, i32_2, i32_3, i32_4, i32_9, i32_10, i32_99, i32_100, i32_1000, i32_9999] at *; omega))] | rw [if_neg (by first | assumption | (rintro (h9 | h9 | h9) <;> contradiction) | (rintro (h9 | h9) <;> contradiction) | (intro h9; exact Bool.noConfusion (Eq.trans (c := false) h9.symm (by assumption))) | (rintro ⟨h8, h9⟩; exact Bool.noConfusion (Eq.trans (c := false) h8.symm (by assumption))) | (rintro ⟨h8, h9⟩; exact Bool.noConfusion (Eq.trans (c := false) h9.symm (by assumption))) | (simp only [Int32.lt_iff_toInt_lt, Int32.le_iff_toInt_le, i32_0, i32_1, i32_2, i32_3, i32_4, i32_9, i32_10, i32_99, i32_100, i32_1000, i32_9999] at *; omega))])); (try rfl))
      have hP := Eq.mp (congrArg (fun z9 => va_P D vwCl (bMO k q z9 ea fa ch tn he en ln sv wr dg ++ bI83 k (q 1) v) H) e_11) hP
      have hD := Eq.mp (congrArg (fun z9 => va_D A (bMO k q z9 ea fa ch tn he en ln sv wr dg ++ bI83 k (q 1) v)) e_11) hD
      have e_12 : (v : Nat → Int32) = (opMoves v n th (nI j) y).2.2 := by first | (with_reducible rfl) | ((try simp only [opMoves, clj]); (repeat (first | rw [if_pos (by first | assumption | exact Eq.trans (b := false) (by assumption) (Eq.symm (by assumption)) | exact Eq.trans (b := true) (by assumption) (Eq.symm (by assumption)) | exact ⟨by assumption, by assumption⟩ | exact Or.inl (by assumption) | exact Or.inr (by assumption) | exact Or.inr (Or.inl (by assumption)) | exact Or.inr (Or.inr (by assumption)) | (simp only [Int32.lt_iff_toInt_lt, Int32.le_iff_toInt_le, i32_0, i32_1, i32_2, i32_3, i32_4, i32_9, i32_10, i32_99, i32_100, i32_1000, i32_9999] at *; omega))] | rw [if_neg (by first | assumption | (rintro (h9 | h9 | h9) <;> contradiction) | (rintro (h9 | h9) <;> contradiction) | (intro h9; exact Bool.noConfusion (Eq.trans (c := false) h9.symm (by assumption))) | (rintro ⟨h8, h9⟩; exact Bool.noConfusion (Eq.trans (c := false) h8.symm (by assumption))) | (rintro ⟨h8, h9⟩; exact Bool.noConfusion (Eq.trans (c := false) h9.symm (by assumption))) | (simp only [Int32.lt_iff_toInt_lt, Int32.le_iff_toInt_le, i32_0, i32_1, i32_2, i32_3, i32_4, i32_9, i32_10, i32_99, i32_100, i32_1000, i32_9999] at *; omega))])); (try rfl))
      have hP := Eq.mp (congrArg (fun z9 => va_P D vwCl (bMO k q ((opMoves v n th (nI j) y).2.1) ea fa ch tn he en ln sv wr dg ++ bI83 k (q 1) z9) H) e_12) hP
      have hD := Eq.mp (congrArg (fun z9 => va_D A (bMO k q ((opMoves v n th (nI j) y).2.1) ea fa ch tn he en ln sv wr dg ++ bI83 k (q 1) z9)) e_12) hD
      exact W.iret (v := 0) hx hb hr (fun t9 ht hW => ⟨⟨_, (), rfl, (by (try simp only [opMoves, clj]); (repeat (first | rw [if_pos (by first | assumption | exact Eq.trans (b := false) (by assumption) (Eq.symm (by assumption)) | exact Eq.trans (b := true) (by assumption) (Eq.symm (by assumption)) | exact ⟨by assumption, by assumption⟩ | exact Or.inl (by assumption) | exact Or.inr (by assumption) | exact Or.inr (Or.inl (by assumption)) | exact Or.inr (Or.inr (by assumption)) | (simp only [Int32.lt_iff_toInt_lt, Int32.le_iff_toInt_le, i32_0, i32_1, i32_2, i32_3, i32_4, i32_9, i32_10, i32_99, i32_100, i32_1000, i32_9999] at *; omega))] | rw [if_neg (by first | assumption | (rintro (h9 | h9 | h9) <;> contradiction) | (rintro (h9 | h9) <;> contradiction) | (intro h9; exact Bool.noConfusion (Eq.trans (c := false) h9.symm (by assumption))) | (rintro ⟨h8, h9⟩; exact Bool.noConfusion (Eq.trans (c := false) h8.symm (by assumption))) | (rintro ⟨h8, h9⟩; exact Bool.noConfusion (Eq.trans (c := false) h9.symm (by assumption))) | (simp only [Int32.lt_iff_toInt_lt, Int32.le_iff_toInt_le, i32_0, i32_1, i32_2, i32_3, i32_4, i32_9, i32_10, i32_99, i32_100, i32_1000, i32_9999] at *; omega))])); (try rfl)), ⟨by rw [ht]; exact hP, va_K.moved hW.alike hK, hD⟩⟩, hS.F ht⟩) hS.2.2 dX13_moves_22 hlocks

set_option maxHeartbeats 4000000 in
set_option maxRecDepth 100000 in
theorem m_X13_limits (l9 : Launch) (D : va_G) (k : Nat → ClassId) (sz : Nat) (q : Nat → Nat) (th ea fa : Int32) (ch tn he en ln : Nat) (sv wr dg : Bool) (v : Nat → Int32) (x : Int32) : Met l9 yX13_limits wsX13_limits ({ frames := 1, cells := 0, slots := 0, locals := 22 }) (WPc D k [.ref (q 0), .int x] (bMO k q th ea fa ch tn he en ln sv wr dg ++ bI83 k (q 1) v) sz) (WI D k (bMO k q ((opLimits v th x).2.1) ea fa ch tn he en ln sv wr dg ++ bI83 k (q 1) ((opLimits v th x).2.2)) ((opLimits v th x).1) (va_A (bMO k q th ea fa ch tn he en ln sv wr dg ++ bI83 k (q 1) v) sz)) 0 0 (va_A (bMO k q th ea fa ch tn he en ln sv wr dg ++ bI83 k (q 1) v) sz) := by
  refine wMet (y := yX13_limits) (cc := cX13_limits) (maxL := 3) (ret := (some .int)) (Qc := fun A => WI D k (bMO k q ((opLimits v th x).2.1) ea fa ch tn he en ln sv wr dg ++ bI83 k (q 1) ((opLimits v th x).2.2)) ((opLimits v th x).1) A) [.ref (q 0), .int x] (by decide) rfl (Nat.le_of_ble_eq_true rfl) ?_
  intro p9 e9 s9 m9 bl9 me9 c9 ls A H hF hr hlocks hP hK hN hD hA hS hl hin
  have hl : lv_has ls 3 [(0, .ref (q 0)), (1, .int x)] := hl
  obtain ⟨hx, hb, hml, hown, hts⟩ := id hF
  have k_fieldLink_16 : (Cond.fieldLink RX13 16 "OpinionReactorModel" "v" "[I").before _ s9 = true := hts (.fieldLink RX13 16 "OpinionReactorModel" "v" "[I") (by decide +kernel)
  have kc_RX13 : ∀ w ∈ u_ws RX13 TX13 29, w ∈ wsX13_limits := by decide +kernel
  refine lv_iload_n hx hb dX13_limits_0 rfl (lv_at hl 1 rfl) ?_
  refine lv_iconst (v := 1) hx hb dX13_limits_1 (by decide) ?_
  refine lv_sipush (v := 9999) hx hb dX13_limits_2 (by decide) ?_
  refine vp_callSi (W.runS (As := [.int x, .int 1, .int 9999]) (rest := []) hF (m_X13_isIn l9 D k x 1 9999 ) (va_cwS 3 hts gX13_limits_X13_isIn rfl rfl rfl (by decide +kernel) ⟨Nat.le_of_ble_eq_true rfl, Nat.le_of_ble_eq_true rfl⟩) (rPreS hK hN hP [] rfl) rfl rfl hl.1 rfl (lv_room (Nat.le_of_ble_eq_true rfl)) dX13_limits_5 ⟨Nat.zero_le _, Nat.zero_le _⟩) (fun r_1 hr_1 => ?_)
  subst hr_1
  refine lv_if_ne (tgt := 17) hx hb dX13_limits_8 (by decide) (fun c_2 => ?_) (fun c_2 => ?_)
  · skip
    have c_2 : (rg 1 x 9999) = true := bI_1 c_2
    refine lv_aload_n hx hb dX13_limits_17 rfl (lv_at hl 0 rfl) ?_
    refine va_get (D := D) (ci := 11) (v := .ref (q 1)) (C := RX13) (T := TX13) (N := 29) hx hb hts kc_RX13 hown hK hP 0 rfl rfl 5 (by decide) k_fieldLink_16 (fun _ h9 => h9) rfl dX13_limits_18 ?_
    refine lv_iconst (v := 1) hx hb dX13_limits_21 (by decide) ?_
    refine ia_ld hx hb hK hP 1 rfl 1 (by omega) (by decide) dX13_limits_22 ?_
    refine lv_istore_n (lv' := [(2, .int (v 1)), (0, .ref (q 0)), (1, .int x)]) hx hb dX13_limits_23 rfl hl (by decide) rfl (fun ls hl => ?_)
    refine lv_aload_n hx hb dX13_limits_24 rfl (lv_at hl 1 rfl) ?_
    refine va_get (D := D) (ci := 11) (v := .ref (q 1)) (C := RX13) (T := TX13) (N := 29) hx hb hts kc_RX13 hown hK hP 0 rfl rfl 5 (by decide) k_fieldLink_16 (fun _ h9 => h9) rfl dX13_limits_25 ?_
    refine lv_iconst (v := 1) hx hb dX13_limits_28 (by decide) ?_
    refine lv_iload_n hx hb dX13_limits_29 rfl (lv_at hl 2 rfl) ?_
    refine ia_st hx hb hK hP hD hS 1 rfl 1 (by omega) (by decide) (bMO k q th ea fa ch tn he en ln sv wr dg ++ bI83 k (q 1) (upd v 1 x)) rfl dX13_limits_30 (fun H locs hP hD hS => ?_)
    refine lv_iload_n hx hb dX13_limits_31 rfl (lv_at hl 0 rfl) ?_
    have e_3 : (th : Int32) = (opLimits v th x).2.1 := by first | (with_reducible rfl) | ((try simp only [opLimits]); (repeat (first | rw [if_pos (by first | assumption | exact Eq.trans (b := false) (by assumption) (Eq.symm (by assumption)) | exact Eq.trans (b := true) (by assumption) (Eq.symm (by assumption)) | exact ⟨by assumption, by assumption⟩ | exact Or.inl (by assumption) | exact Or.inr (by assumption) | exact Or.inr (Or.inl (by assumption)) | exact Or.inr (Or.inr (by assumption)) | (simp only [Int32.lt_iff_toInt_lt, Int32.le_iff_toInt_le, i32_0, i32_1, i32_2, i32_3, i32_4, i32_9, i32_10, i32_99, i32_100, i32_1000, i32_9999] at *; omega))] | rw [if_neg (by first | assumption | (rintro (h9 | h9 | h9) <;> contradiction) | (rintro (h9 | h9) <;> contradiction) | (intro h9; exact Bool.noConfusion (Eq.trans (c := false) h9.symm (by assumption))) | (rintro ⟨h8, h9⟩; exact Bool.noConfusion (Eq.trans (c := false) h8.symm (by assumption))) | (rintro ⟨h8, h9⟩; exact Bool.noConfusion (Eq.trans (c := false) h9.symm (by assumption))) | (simp only [Int32.lt_iff_toInt_lt, Int32.le_iff_toInt_le, i32_0, i32_1, i32_2, i32_3, i32_4, i32_9, i32_10, i32_99, i32_100, i32_1000, i32_9999] at *; omega))])); (try rfl))
    have hP := Eq.mp (congrArg (fun z9 => va_P D vwCl (bMO k q z9 ea fa ch tn he en ln sv wr dg ++ bI83 k (q 1) (upd v 1 x)) H) e_3) hP
    have hD := Eq.mp (congrArg (fun z9 => va_D A (bMO k q z9 ea fa ch tn he en ln sv wr dg ++ bI83 k (q 1) (upd v 1 x))) e_3) hD
    have e_4 : (upd v 1 x : Nat → Int32) = (opLimits v th x).2.2 := by first | (with_reducible rfl) | ((try simp only [opLimits]); (repeat (first | rw [if_pos (by first | assumption | exact Eq.trans (b := false) (by assumption) (Eq.symm (by assumption)) | exact Eq.trans (b := true) (by assumption) (Eq.symm (by assumption)) | exact ⟨by assumption, by assumption⟩ | exact Or.inl (by assumption) | exact Or.inr (by assumption) | exact Or.inr (Or.inl (by assumption)) | exact Or.inr (Or.inr (by assumption)) | (simp only [Int32.lt_iff_toInt_lt, Int32.le_iff_toInt_le, i32_0, i32_1, i32_2, i32_3, i32_4, i32_9, i32_10, i32_99, i32_100, i32_1000, i32_9999] at *; omega))] | rw [if_neg (by first | assumption | (rintro (h9 | h9 | h9) <;> contradiction) | (rintro (h9 | h9) <;> contradiction) | (intro h9; exact Bool.noConfusion (Eq.trans (c := false) h9.symm (by assumption))) | (rintro ⟨h8, h9⟩; exact Bool.noConfusion (Eq.trans (c := false) h8.symm (by assumption))) | (rintro ⟨h8, h9⟩; exact Bool.noConfusion (Eq.trans (c := false) h9.symm (by assumption))) | (simp only [Int32.lt_iff_toInt_lt, Int32.le_iff_toInt_le, i32_0, i32_1, i32_2, i32_3, i32_4, i32_9, i32_10, i32_99, i32_100, i32_1000, i32_9999] at *; omega))])); (try rfl))
    have hP := Eq.mp (congrArg (fun z9 => va_P D vwCl (bMO k q ((opLimits v th x).2.1) ea fa ch tn he en ln sv wr dg ++ bI83 k (q 1) z9) H) e_4) hP
    have hD := Eq.mp (congrArg (fun z9 => va_D A (bMO k q ((opLimits v th x).2.1) ea fa ch tn he en ln sv wr dg ++ bI83 k (q 1) z9)) e_4) hD
    exact W.iret (v := v 1) hx hb hr (fun t9 ht hW => ⟨⟨_, (), rfl, (by (try simp only [opLimits]); (repeat (first | rw [if_pos (by first | assumption | exact Eq.trans (b := false) (by assumption) (Eq.symm (by assumption)) | exact Eq.trans (b := true) (by assumption) (Eq.symm (by assumption)) | exact ⟨by assumption, by assumption⟩ | exact Or.inl (by assumption) | exact Or.inr (by assumption) | exact Or.inr (Or.inl (by assumption)) | exact Or.inr (Or.inr (by assumption)) | (simp only [Int32.lt_iff_toInt_lt, Int32.le_iff_toInt_le, i32_0, i32_1, i32_2, i32_3, i32_4, i32_9, i32_10, i32_99, i32_100, i32_1000, i32_9999] at *; omega))] | rw [if_neg (by first | assumption | (rintro (h9 | h9 | h9) <;> contradiction) | (rintro (h9 | h9) <;> contradiction) | (intro h9; exact Bool.noConfusion (Eq.trans (c := false) h9.symm (by assumption))) | (rintro ⟨h8, h9⟩; exact Bool.noConfusion (Eq.trans (c := false) h8.symm (by assumption))) | (rintro ⟨h8, h9⟩; exact Bool.noConfusion (Eq.trans (c := false) h9.symm (by assumption))) | (simp only [Int32.lt_iff_toInt_lt, Int32.le_iff_toInt_le, i32_0, i32_1, i32_2, i32_3, i32_4, i32_9, i32_10, i32_99, i32_100, i32_1000, i32_9999] at *; omega))])); (try rfl)), ⟨by rw [ht]; exact hP, va_K.moved hW.alike hK, hD⟩⟩, hS.F ht⟩) hS.2.2 dX13_limits_32 hlocks
  · skip
    have c_2 : (rg 1 x 9999) = false := bI_0 c_2
    refine lv_aload_n hx hb dX13_limits_11 rfl (lv_at hl 0 rfl) ?_
    refine lv_iconst (v := 1) hx hb dX13_limits_12 (by decide) ?_
    have hFc := va_free (wc := bMO k q th ea fa ch tn he en ln sv wr dg) hD hS hA [0] rfl
    refine va_calli (va_runV (As := [.int 1]) (rest := []) hF (m_X13_fail l9 D k H.size q th ea fa ch tn he en ln sv wr dg 1 ) (cwV 1 hts gX13_limits_X13_fail rfl rfl rfl (by decide +kernel) ⟨Nat.le_of_ble_eq_true rfl, Nat.le_of_ble_eq_true rfl⟩) (wPreV hK hN hP hD [0] rfl (by decide) rfl 0 11 rfl rfl) rfl rfl hl.1 rfl (lv_room (Nat.le_of_ble_eq_true rfl)) dX13_limits_13 ⟨Nat.zero_le _, Nat.zero_le _⟩) hS (fun q _ h => hFc q h) hFc (fun r u9 t9 H1 locs ht hvm hw hB hz1 hk1 hS => ?_)
    obtain ⟨hP, hD⟩ := wjoin (wr := bI83 k (q 1) v) (wf := bMO k q 1 ea fa ch tn he en ln sv wr dg ++ bI83 k (q 1) v) hP hD [0] [1] [1, 0] rfl rfl (by decide) (by decide) hk1 hFc hB ht rfl rfl (by decide)
    subst hw
    clear hB hk1 hz1 hvm hFc
    clear ht
    clear t9
    generalize H1 = H at hP hS ⊢
    have e_5 : (1 : Int32) = (opLimits v th x).2.1 := by first | (with_reducible rfl) | ((try simp only [opLimits]); (repeat (first | rw [if_pos (by first | assumption | exact Eq.trans (b := false) (by assumption) (Eq.symm (by assumption)) | exact Eq.trans (b := true) (by assumption) (Eq.symm (by assumption)) | exact ⟨by assumption, by assumption⟩ | exact Or.inl (by assumption) | exact Or.inr (by assumption) | exact Or.inr (Or.inl (by assumption)) | exact Or.inr (Or.inr (by assumption)) | (simp only [Int32.lt_iff_toInt_lt, Int32.le_iff_toInt_le, i32_0, i32_1, i32_2, i32_3, i32_4, i32_9, i32_10, i32_99, i32_100, i32_1000, i32_9999] at *; omega))] | rw [if_neg (by first | assumption | (rintro (h9 | h9 | h9) <;> contradiction) | (rintro (h9 | h9) <;> contradiction) | (intro h9; exact Bool.noConfusion (Eq.trans (c := false) h9.symm (by assumption))) | (rintro ⟨h8, h9⟩; exact Bool.noConfusion (Eq.trans (c := false) h8.symm (by assumption))) | (rintro ⟨h8, h9⟩; exact Bool.noConfusion (Eq.trans (c := false) h9.symm (by assumption))) | (simp only [Int32.lt_iff_toInt_lt, Int32.le_iff_toInt_le, i32_0, i32_1, i32_2, i32_3, i32_4, i32_9, i32_10, i32_99, i32_100, i32_1000, i32_9999] at *; omega))])); (try rfl))
    have hP := Eq.mp (congrArg (fun z9 => va_P D vwCl (bMO k q z9 ea fa ch tn he en ln sv wr dg ++ bI83 k (q 1) v) H) e_5) hP
    have hD := Eq.mp (congrArg (fun z9 => va_D A (bMO k q z9 ea fa ch tn he en ln sv wr dg ++ bI83 k (q 1) v)) e_5) hD
    have e_6 : (v : Nat → Int32) = (opLimits v th x).2.2 := by first | (with_reducible rfl) | ((try simp only [opLimits]); (repeat (first | rw [if_pos (by first | assumption | exact Eq.trans (b := false) (by assumption) (Eq.symm (by assumption)) | exact Eq.trans (b := true) (by assumption) (Eq.symm (by assumption)) | exact ⟨by assumption, by assumption⟩ | exact Or.inl (by assumption) | exact Or.inr (by assumption) | exact Or.inr (Or.inl (by assumption)) | exact Or.inr (Or.inr (by assumption)) | (simp only [Int32.lt_iff_toInt_lt, Int32.le_iff_toInt_le, i32_0, i32_1, i32_2, i32_3, i32_4, i32_9, i32_10, i32_99, i32_100, i32_1000, i32_9999] at *; omega))] | rw [if_neg (by first | assumption | (rintro (h9 | h9 | h9) <;> contradiction) | (rintro (h9 | h9) <;> contradiction) | (intro h9; exact Bool.noConfusion (Eq.trans (c := false) h9.symm (by assumption))) | (rintro ⟨h8, h9⟩; exact Bool.noConfusion (Eq.trans (c := false) h8.symm (by assumption))) | (rintro ⟨h8, h9⟩; exact Bool.noConfusion (Eq.trans (c := false) h9.symm (by assumption))) | (simp only [Int32.lt_iff_toInt_lt, Int32.le_iff_toInt_le, i32_0, i32_1, i32_2, i32_3, i32_4, i32_9, i32_10, i32_99, i32_100, i32_1000, i32_9999] at *; omega))])); (try rfl))
    have hP := Eq.mp (congrArg (fun z9 => va_P D vwCl (bMO k q ((opLimits v th x).2.1) ea fa ch tn he en ln sv wr dg ++ bI83 k (q 1) z9) H) e_6) hP
    have hD := Eq.mp (congrArg (fun z9 => va_D A (bMO k q ((opLimits v th x).2.1) ea fa ch tn he en ln sv wr dg ++ bI83 k (q 1) z9)) e_6) hD
    exact W.iret (v := 0) hx hb hr (fun t9 ht hW => ⟨⟨_, (), rfl, (by (try simp only [opLimits]); (repeat (first | rw [if_pos (by first | assumption | exact Eq.trans (b := false) (by assumption) (Eq.symm (by assumption)) | exact Eq.trans (b := true) (by assumption) (Eq.symm (by assumption)) | exact ⟨by assumption, by assumption⟩ | exact Or.inl (by assumption) | exact Or.inr (by assumption) | exact Or.inr (Or.inl (by assumption)) | exact Or.inr (Or.inr (by assumption)) | (simp only [Int32.lt_iff_toInt_lt, Int32.le_iff_toInt_le, i32_0, i32_1, i32_2, i32_3, i32_4, i32_9, i32_10, i32_99, i32_100, i32_1000, i32_9999] at *; omega))] | rw [if_neg (by first | assumption | (rintro (h9 | h9 | h9) <;> contradiction) | (rintro (h9 | h9) <;> contradiction) | (intro h9; exact Bool.noConfusion (Eq.trans (c := false) h9.symm (by assumption))) | (rintro ⟨h8, h9⟩; exact Bool.noConfusion (Eq.trans (c := false) h8.symm (by assumption))) | (rintro ⟨h8, h9⟩; exact Bool.noConfusion (Eq.trans (c := false) h9.symm (by assumption))) | (simp only [Int32.lt_iff_toInt_lt, Int32.le_iff_toInt_le, i32_0, i32_1, i32_2, i32_3, i32_4, i32_9, i32_10, i32_99, i32_100, i32_1000, i32_9999] at *; omega))])); (try rfl)), ⟨by rw [ht]; exact hP, va_K.moved hW.alike hK, hD⟩⟩, hS.F ht⟩) hS.2.2 dX13_limits_16 hlocks

set_option maxHeartbeats 4000000 in
set_option maxRecDepth 100000 in
theorem m_X13_racks (l9 : Launch) (D : va_G) (k : Nat → ClassId) (sz : Nat) (q : Nat → Nat) (th ea fa : Int32) (ch tn he en ln : Nat) (sv wr dg : Bool) (v : Nat → Int32) (x z : Int32) : Met l9 yX13_racks wsX13_racks ({ frames := 2, cells := 0, slots := 0, locals := 44 }) (WPc D k [.ref (q 0), .int x, .int z] (bMO k q th ea fa ch tn he en ln sv wr dg ++ bI83 k (q 1) v) sz) (WI D k (bMO k q ((opRacks v th x z).2.1) ea fa ch tn he en ln sv wr dg ++ bI83 k (q 1) ((opRacks v th x z).2.2)) ((opRacks v th x z).1) (va_A (bMO k q th ea fa ch tn he en ln sv wr dg ++ bI83 k (q 1) v) sz)) 0 0 (va_A (bMO k q th ea fa ch tn he en ln sv wr dg ++ bI83 k (q 1) v) sz) := by
  refine wMet (y := yX13_racks) (cc := cX13_racks) (maxL := 4) (ret := (some .int)) (Qc := fun A => WI D k (bMO k q ((opRacks v th x z).2.1) ea fa ch tn he en ln sv wr dg ++ bI83 k (q 1) ((opRacks v th x z).2.2)) ((opRacks v th x z).1) A) [.ref (q 0), .int x, .int z] (by decide) rfl (Nat.le_of_ble_eq_true rfl) ?_
  intro p9 e9 s9 m9 bl9 me9 c9 ls A H hF hr hlocks hP hK hN hD hA hS hl hin
  have hl : lv_has ls 4 [(0, .ref (q 0)), (1, .int x), (2, .int z)] := hl
  obtain ⟨hx, hb, hml, hown, hts⟩ := id hF
  have k_fieldLink_16 : (Cond.fieldLink RX13 16 "OpinionReactorModel" "v" "[I").before _ s9 = true := hts (.fieldLink RX13 16 "OpinionReactorModel" "v" "[I") (by decide +kernel)
  have kc_RX13 : ∀ w ∈ u_ws RX13 TX13 29, w ∈ wsX13_racks := by decide +kernel
  refine lv_iload_n hx hb dX13_racks_0 rfl (lv_at hl 1 rfl) ?_
  refine vp_callSi (W.runS (As := [.int x]) (rest := []) hF (m_X13_isLayer l9 D k x ) (va_cwS 1 hts gX13_racks_X13_isLayer rfl rfl rfl (by decide +kernel) ⟨Nat.le_of_ble_eq_true rfl, Nat.le_of_ble_eq_true rfl⟩) (rPreS hK hN hP [] rfl) rfl rfl hl.1 rfl (lv_room (Nat.le_of_ble_eq_true rfl)) dX13_racks_1 ⟨Nat.zero_le _, Nat.zero_le _⟩) (fun r_1 hr_1 => ?_)
  subst hr_1
  refine lv_if_ne (tgt := 13) hx hb dX13_racks_4 (by decide) (fun c_2 => ?_) (fun c_2 => ?_)
  · skip
    have c_2 : (rg 0 x 3) = true := bI_1 c_2
    obtain ⟨j, hj, rfl⟩ := rg_of (m := 3) (by decide) c_2
    have clj : (nI j).toNatClampNeg = j := clN (by omega)
    refine lv_iload_n hx hb dX13_racks_13 rfl (lv_at hl 2 rfl) ?_
    refine lv_bipush (v := 113) hx hb dX13_racks_14 (by decide) ?_
    refine lv_icmp_eq (tgt := 37) hx hb dX13_racks_16 (by decide) (fun c_3 => ?_) (fun c_3 => ?_)
    · skip
      refine lv_aload_n hx hb dX13_racks_37 rfl (lv_at hl 0 rfl) ?_
      refine lv_iload_n hx hb dX13_racks_38 rfl (lv_at hl 1 rfl) ?_
      refine vp_callSi (W.runV (As := [.int (nI j)]) (rest := []) hF (m_X13_depth l9 D k q th ea fa ch tn he en ln sv wr dg v j (by omega)) (cwV 1 hts gX13_racks_X13_depth rfl rfl rfl (by decide +kernel) ⟨Nat.le_of_ble_eq_true rfl, Nat.le_of_ble_eq_true rfl⟩) (rPreV hK hN hP [0, 1] rfl 0 11 rfl rfl) rfl rfl hl.1 rfl (lv_room (Nat.le_of_ble_eq_true rfl)) dX13_racks_39 ⟨Nat.zero_le _, Nat.zero_le _⟩) (fun r_4 hr_4 => ?_)
      subst hr_4
      refine lv_if_le (tgt := 51) hx hb dX13_racks_42 (by decide) (fun c_5 => ?_) (fun c_5 => ?_)
      · skip
        refine lv_aload_n hx hb dX13_racks_51 rfl (lv_at hl 0 rfl) ?_
        refine va_get (D := D) (ci := 11) (v := .ref (q 1)) (C := RX13) (T := TX13) (N := 29) hx hb hts kc_RX13 hown hK hP 0 rfl rfl 5 (by decide) k_fieldLink_16 (fun _ h9 => h9) rfl dX13_racks_52 ?_
        refine lv_iload_n hx hb dX13_racks_55 rfl (lv_at hl 1 rfl) ?_
        refine lv_iconst (v := 0) hx hb dX13_racks_56 (by decide) ?_
        refine vp_callSi (W.runS (As := [.int (nI j), .int 0]) (rest := [.ref (q 1)]) hF (m_X13_rackAt l9 D k j 0 ) (va_cwS 2 hts gX13_racks_X13_rackAt rfl rfl rfl (by decide +kernel) ⟨Nat.le_of_ble_eq_true rfl, Nat.le_of_ble_eq_true rfl⟩) (rPreS hK hN hP [] rfl) rfl rfl hl.1 rfl (lv_room (Nat.le_of_ble_eq_true rfl)) dX13_racks_57 ⟨Nat.zero_le _, Nat.zero_le _⟩) (fun r_6 hr_6 => ?_)
        subst hr_6
        refine ia_ld hx hb hK hP 1 rfl (35 + 4 * j + 0) (by omega) (by decide) dX13_racks_60 ?_
        refine lv_istore_n (lv' := [(3, .int (v (35 + 4 * j + 0))), (0, .ref (q 0)), (1, .int (nI j)), (2, .int z)]) hx hb dX13_racks_61 rfl hl (by decide) rfl (fun ls hl => ?_)
        refine lv_aload_n hx hb dX13_racks_62 rfl (lv_at hl 1 rfl) ?_
        refine va_get (D := D) (ci := 11) (v := .ref (q 1)) (C := RX13) (T := TX13) (N := 29) hx hb hts kc_RX13 hown hK hP 0 rfl rfl 5 (by decide) k_fieldLink_16 (fun _ h9 => h9) rfl dX13_racks_63 ?_
        refine lv_iload_n hx hb dX13_racks_66 rfl (lv_at hl 2 rfl) ?_
        refine lv_iconst (v := 0) hx hb dX13_racks_67 (by decide) ?_
        refine vp_callSi (W.runS (As := [.int (nI j), .int 0]) (rest := [.ref (q 1)]) hF (m_X13_rackAt l9 D k j 0 ) (va_cwS 2 hts gX13_racks_X13_rackAt rfl rfl rfl (by decide +kernel) ⟨Nat.le_of_ble_eq_true rfl, Nat.le_of_ble_eq_true rfl⟩) (rPreS hK hN hP [] rfl) rfl rfl hl.1 rfl (lv_room (Nat.le_of_ble_eq_true rfl)) dX13_racks_68 ⟨Nat.zero_le _, Nat.zero_le _⟩) (fun r_7 hr_7 => ?_)
        subst hr_7
        refine lv_iload_n hx hb dX13_racks_71 rfl (lv_at hl 3 rfl) ?_
        refine ia_st hx hb hK hP hD hS 1 rfl (35 + 4 * j + 0) (by omega) (by decide) (bMO k q th ea fa ch tn he en ln sv wr dg ++ bI83 k (q 1) (upd v (35 + 4 * j + 0) z)) rfl dX13_racks_72 (fun H locs hP hD hS => ?_)
        refine lv_iload_n hx hb dX13_racks_73 rfl (lv_at hl 0 rfl) ?_
        have e_8 : (th : Int32) = (opRacks v th (nI j) z).2.1 := by first | (with_reducible rfl) | ((try simp only [opRacks, clj]); (repeat (first | rw [if_pos (by first | assumption | exact Eq.trans (b := false) (by assumption) (Eq.symm (by assumption)) | exact Eq.trans (b := true) (by assumption) (Eq.symm (by assumption)) | exact ⟨by assumption, by assumption⟩ | exact Or.inl (by assumption) | exact Or.inr (by assumption) | exact Or.inr (Or.inl (by assumption)) | exact Or.inr (Or.inr (by assumption)) | (simp only [Int32.lt_iff_toInt_lt, Int32.le_iff_toInt_le, i32_0, i32_1, i32_2, i32_3, i32_4, i32_9, i32_10, i32_99, i32_100, i32_1000, i32_9999] at *; omega))] | rw [if_neg (by first | assumption | (rintro (h9 | h9 | h9) <;> contradiction) | (rintro (h9 | h9) <;> contradiction) | (intro h9; exact Bool.noConfusion (Eq.trans (c := false) h9.symm (by assumption))) | (rintro ⟨h8, h9⟩; exact Bool.noConfusion (Eq.trans (c := false) h8.symm (by assumption))) | (rintro ⟨h8, h9⟩; exact Bool.noConfusion (Eq.trans (c := false) h9.symm (by assumption))) | (simp only [Int32.lt_iff_toInt_lt, Int32.le_iff_toInt_le, i32_0, i32_1, i32_2, i32_3, i32_4, i32_9, i32_10, i32_99, i32_100, i32_1000, i32_9999] at *; omega))])); (try rfl))
        have hP := Eq.mp (congrArg (fun z9 => va_P D vwCl (bMO k q z9 ea fa ch tn he en ln sv wr dg ++ bI83 k (q 1) (upd v (35 + 4 * j + 0) z)) H) e_8) hP
        have hD := Eq.mp (congrArg (fun z9 => va_D A (bMO k q z9 ea fa ch tn he en ln sv wr dg ++ bI83 k (q 1) (upd v (35 + 4 * j + 0) z))) e_8) hD
        have e_9 : (upd v (35 + 4 * j + 0) z : Nat → Int32) = (opRacks v th (nI j) z).2.2 := by first | (with_reducible rfl) | ((try simp only [opRacks, clj]); (repeat (first | rw [if_pos (by first | assumption | exact Eq.trans (b := false) (by assumption) (Eq.symm (by assumption)) | exact Eq.trans (b := true) (by assumption) (Eq.symm (by assumption)) | exact ⟨by assumption, by assumption⟩ | exact Or.inl (by assumption) | exact Or.inr (by assumption) | exact Or.inr (Or.inl (by assumption)) | exact Or.inr (Or.inr (by assumption)) | (simp only [Int32.lt_iff_toInt_lt, Int32.le_iff_toInt_le, i32_0, i32_1, i32_2, i32_3, i32_4, i32_9, i32_10, i32_99, i32_100, i32_1000, i32_9999] at *; omega))] | rw [if_neg (by first | assumption | (rintro (h9 | h9 | h9) <;> contradiction) | (rintro (h9 | h9) <;> contradiction) | (intro h9; exact Bool.noConfusion (Eq.trans (c := false) h9.symm (by assumption))) | (rintro ⟨h8, h9⟩; exact Bool.noConfusion (Eq.trans (c := false) h8.symm (by assumption))) | (rintro ⟨h8, h9⟩; exact Bool.noConfusion (Eq.trans (c := false) h9.symm (by assumption))) | (simp only [Int32.lt_iff_toInt_lt, Int32.le_iff_toInt_le, i32_0, i32_1, i32_2, i32_3, i32_4, i32_9, i32_10, i32_99, i32_100, i32_1000, i32_9999] at *; omega))])); (try rfl))
        have hP := Eq.mp (congrArg (fun z9 => va_P D vwCl (bMO k q ((opRacks v th (nI j) z).2.1) ea fa ch tn he en ln sv wr dg ++ bI83 k (q 1) z9) H) e_9) hP
        have hD := Eq.mp (congrArg (fun z9 => va_D A (bMO k q ((opRacks v th (nI j) z).2.1) ea fa ch tn he en ln sv wr dg ++ bI83 k (q 1) z9)) e_9) hD
        exact W.iret (v := v (35 + 4 * j + 0)) hx hb hr (fun t9 ht hW => ⟨⟨_, (), rfl, (by (try simp only [opRacks, clj]); (repeat (first | rw [if_pos (by first | assumption | exact Eq.trans (b := false) (by assumption) (Eq.symm (by assumption)) | exact Eq.trans (b := true) (by assumption) (Eq.symm (by assumption)) | exact ⟨by assumption, by assumption⟩ | exact Or.inl (by assumption) | exact Or.inr (by assumption) | exact Or.inr (Or.inl (by assumption)) | exact Or.inr (Or.inr (by assumption)) | (simp only [Int32.lt_iff_toInt_lt, Int32.le_iff_toInt_le, i32_0, i32_1, i32_2, i32_3, i32_4, i32_9, i32_10, i32_99, i32_100, i32_1000, i32_9999] at *; omega))] | rw [if_neg (by first | assumption | (rintro (h9 | h9 | h9) <;> contradiction) | (rintro (h9 | h9) <;> contradiction) | (intro h9; exact Bool.noConfusion (Eq.trans (c := false) h9.symm (by assumption))) | (rintro ⟨h8, h9⟩; exact Bool.noConfusion (Eq.trans (c := false) h8.symm (by assumption))) | (rintro ⟨h8, h9⟩; exact Bool.noConfusion (Eq.trans (c := false) h9.symm (by assumption))) | (simp only [Int32.lt_iff_toInt_lt, Int32.le_iff_toInt_le, i32_0, i32_1, i32_2, i32_3, i32_4, i32_9, i32_10, i32_99, i32_100, i32_1000, i32_9999] at *; omega))])); (try rfl)), ⟨by rw [ht]; exact hP, va_K.moved hW.alike hK, hD⟩⟩, hS.F ht⟩) hS.2.2 dX13_racks_74 hlocks
      · skip
        refine lv_aload_n hx hb dX13_racks_45 rfl (lv_at hl 0 rfl) ?_
        refine lv_iconst (v := 3) hx hb dX13_racks_46 (by decide) ?_
        have hFc := va_free (wc := bMO k q th ea fa ch tn he en ln sv wr dg) hD hS hA [0] rfl
        refine va_calli (va_runV (As := [.int 3]) (rest := []) hF (m_X13_fail l9 D k H.size q th ea fa ch tn he en ln sv wr dg 3 ) (cwV 1 hts gX13_racks_X13_fail rfl rfl rfl (by decide +kernel) ⟨Nat.le_of_ble_eq_true rfl, Nat.le_of_ble_eq_true rfl⟩) (wPreV hK hN hP hD [0] rfl (by decide) rfl 0 11 rfl rfl) rfl rfl hl.1 rfl (lv_room (Nat.le_of_ble_eq_true rfl)) dX13_racks_47 ⟨Nat.zero_le _, Nat.zero_le _⟩) hS (fun q _ h => hFc q h) hFc (fun r u9 t9 H1 locs ht hvm hw hB hz1 hk1 hS => ?_)
        obtain ⟨hP, hD⟩ := wjoin (wr := bI83 k (q 1) v) (wf := bMO k q 3 ea fa ch tn he en ln sv wr dg ++ bI83 k (q 1) v) hP hD [0] [1] [1, 0] rfl rfl (by decide) (by decide) hk1 hFc hB ht rfl rfl (by decide)
        subst hw
        clear hB hk1 hz1 hvm hFc
        clear ht
        clear t9
        generalize H1 = H at hP hS ⊢
        have e_10 : (3 : Int32) = (opRacks v th (nI j) z).2.1 := by first | (with_reducible rfl) | ((try simp only [opRacks, clj]); (repeat (first | rw [if_pos (by first | assumption | exact Eq.trans (b := false) (by assumption) (Eq.symm (by assumption)) | exact Eq.trans (b := true) (by assumption) (Eq.symm (by assumption)) | exact ⟨by assumption, by assumption⟩ | exact Or.inl (by assumption) | exact Or.inr (by assumption) | exact Or.inr (Or.inl (by assumption)) | exact Or.inr (Or.inr (by assumption)) | (simp only [Int32.lt_iff_toInt_lt, Int32.le_iff_toInt_le, i32_0, i32_1, i32_2, i32_3, i32_4, i32_9, i32_10, i32_99, i32_100, i32_1000, i32_9999] at *; omega))] | rw [if_neg (by first | assumption | (rintro (h9 | h9 | h9) <;> contradiction) | (rintro (h9 | h9) <;> contradiction) | (intro h9; exact Bool.noConfusion (Eq.trans (c := false) h9.symm (by assumption))) | (rintro ⟨h8, h9⟩; exact Bool.noConfusion (Eq.trans (c := false) h8.symm (by assumption))) | (rintro ⟨h8, h9⟩; exact Bool.noConfusion (Eq.trans (c := false) h9.symm (by assumption))) | (simp only [Int32.lt_iff_toInt_lt, Int32.le_iff_toInt_le, i32_0, i32_1, i32_2, i32_3, i32_4, i32_9, i32_10, i32_99, i32_100, i32_1000, i32_9999] at *; omega))])); (try rfl))
        have hP := Eq.mp (congrArg (fun z9 => va_P D vwCl (bMO k q z9 ea fa ch tn he en ln sv wr dg ++ bI83 k (q 1) v) H) e_10) hP
        have hD := Eq.mp (congrArg (fun z9 => va_D A (bMO k q z9 ea fa ch tn he en ln sv wr dg ++ bI83 k (q 1) v)) e_10) hD
        have e_11 : (v : Nat → Int32) = (opRacks v th (nI j) z).2.2 := by first | (with_reducible rfl) | ((try simp only [opRacks, clj]); (repeat (first | rw [if_pos (by first | assumption | exact Eq.trans (b := false) (by assumption) (Eq.symm (by assumption)) | exact Eq.trans (b := true) (by assumption) (Eq.symm (by assumption)) | exact ⟨by assumption, by assumption⟩ | exact Or.inl (by assumption) | exact Or.inr (by assumption) | exact Or.inr (Or.inl (by assumption)) | exact Or.inr (Or.inr (by assumption)) | (simp only [Int32.lt_iff_toInt_lt, Int32.le_iff_toInt_le, i32_0, i32_1, i32_2, i32_3, i32_4, i32_9, i32_10, i32_99, i32_100, i32_1000, i32_9999] at *; omega))] | rw [if_neg (by first | assumption | (rintro (h9 | h9 | h9) <;> contradiction) | (rintro (h9 | h9) <;> contradiction) | (intro h9; exact Bool.noConfusion (Eq.trans (c := false) h9.symm (by assumption))) | (rintro ⟨h8, h9⟩; exact Bool.noConfusion (Eq.trans (c := false) h8.symm (by assumption))) | (rintro ⟨h8, h9⟩; exact Bool.noConfusion (Eq.trans (c := false) h9.symm (by assumption))) | (simp only [Int32.lt_iff_toInt_lt, Int32.le_iff_toInt_le, i32_0, i32_1, i32_2, i32_3, i32_4, i32_9, i32_10, i32_99, i32_100, i32_1000, i32_9999] at *; omega))])); (try rfl))
        have hP := Eq.mp (congrArg (fun z9 => va_P D vwCl (bMO k q ((opRacks v th (nI j) z).2.1) ea fa ch tn he en ln sv wr dg ++ bI83 k (q 1) z9) H) e_11) hP
        have hD := Eq.mp (congrArg (fun z9 => va_D A (bMO k q ((opRacks v th (nI j) z).2.1) ea fa ch tn he en ln sv wr dg ++ bI83 k (q 1) z9)) e_11) hD
        exact W.iret (v := 0) hx hb hr (fun t9 ht hW => ⟨⟨_, (), rfl, (by (try simp only [opRacks, clj]); (repeat (first | rw [if_pos (by first | assumption | exact Eq.trans (b := false) (by assumption) (Eq.symm (by assumption)) | exact Eq.trans (b := true) (by assumption) (Eq.symm (by assumption)) | exact ⟨by assumption, by assumption⟩ | exact Or.inl (by assumption) | exact Or.inr (by assumption) | exact Or.inr (Or.inl (by assumption)) | exact Or.inr (Or.inr (by assumption)) | (simp only [Int32.lt_iff_toInt_lt, Int32.le_iff_toInt_le, i32_0, i32_1, i32_2, i32_3, i32_4, i32_9, i32_10, i32_99, i32_100, i32_1000, i32_9999] at *; omega))] | rw [if_neg (by first | assumption | (rintro (h9 | h9 | h9) <;> contradiction) | (rintro (h9 | h9) <;> contradiction) | (intro h9; exact Bool.noConfusion (Eq.trans (c := false) h9.symm (by assumption))) | (rintro ⟨h8, h9⟩; exact Bool.noConfusion (Eq.trans (c := false) h8.symm (by assumption))) | (rintro ⟨h8, h9⟩; exact Bool.noConfusion (Eq.trans (c := false) h9.symm (by assumption))) | (simp only [Int32.lt_iff_toInt_lt, Int32.le_iff_toInt_le, i32_0, i32_1, i32_2, i32_3, i32_4, i32_9, i32_10, i32_99, i32_100, i32_1000, i32_9999] at *; omega))])); (try rfl)), ⟨by rw [ht]; exact hP, va_K.moved hW.alike hK, hD⟩⟩, hS.F ht⟩) hS.2.2 dX13_racks_50 hlocks
    · skip
      refine lv_iload_n hx hb dX13_racks_19 rfl (lv_at hl 2 rfl) ?_
      refine lv_bipush (v := 111) hx hb dX13_racks_20 (by decide) ?_
      refine lv_icmp_eq (tgt := 37) hx hb dX13_racks_22 (by decide) (fun c_12 => ?_) (fun c_12 => ?_)
      · skip
        refine lv_aload_n hx hb dX13_racks_37 rfl (lv_at hl 0 rfl) ?_
        refine lv_iload_n hx hb dX13_racks_38 rfl (lv_at hl 1 rfl) ?_
        refine vp_callSi (W.runV (As := [.int (nI j)]) (rest := []) hF (m_X13_depth l9 D k q th ea fa ch tn he en ln sv wr dg v j (by omega)) (cwV 1 hts gX13_racks_X13_depth rfl rfl rfl (by decide +kernel) ⟨Nat.le_of_ble_eq_true rfl, Nat.le_of_ble_eq_true rfl⟩) (rPreV hK hN hP [0, 1] rfl 0 11 rfl rfl) rfl rfl hl.1 rfl (lv_room (Nat.le_of_ble_eq_true rfl)) dX13_racks_39 ⟨Nat.zero_le _, Nat.zero_le _⟩) (fun r_13 hr_13 => ?_)
        subst hr_13
        refine lv_if_le (tgt := 51) hx hb dX13_racks_42 (by decide) (fun c_14 => ?_) (fun c_14 => ?_)
        · skip
          refine lv_aload_n hx hb dX13_racks_51 rfl (lv_at hl 0 rfl) ?_
          refine va_get (D := D) (ci := 11) (v := .ref (q 1)) (C := RX13) (T := TX13) (N := 29) hx hb hts kc_RX13 hown hK hP 0 rfl rfl 5 (by decide) k_fieldLink_16 (fun _ h9 => h9) rfl dX13_racks_52 ?_
          refine lv_iload_n hx hb dX13_racks_55 rfl (lv_at hl 1 rfl) ?_
          refine lv_iconst (v := 0) hx hb dX13_racks_56 (by decide) ?_
          refine vp_callSi (W.runS (As := [.int (nI j), .int 0]) (rest := [.ref (q 1)]) hF (m_X13_rackAt l9 D k j 0 ) (va_cwS 2 hts gX13_racks_X13_rackAt rfl rfl rfl (by decide +kernel) ⟨Nat.le_of_ble_eq_true rfl, Nat.le_of_ble_eq_true rfl⟩) (rPreS hK hN hP [] rfl) rfl rfl hl.1 rfl (lv_room (Nat.le_of_ble_eq_true rfl)) dX13_racks_57 ⟨Nat.zero_le _, Nat.zero_le _⟩) (fun r_15 hr_15 => ?_)
          subst hr_15
          refine ia_ld hx hb hK hP 1 rfl (35 + 4 * j + 0) (by omega) (by decide) dX13_racks_60 ?_
          refine lv_istore_n (lv' := [(3, .int (v (35 + 4 * j + 0))), (0, .ref (q 0)), (1, .int (nI j)), (2, .int z)]) hx hb dX13_racks_61 rfl hl (by decide) rfl (fun ls hl => ?_)
          refine lv_aload_n hx hb dX13_racks_62 rfl (lv_at hl 1 rfl) ?_
          refine va_get (D := D) (ci := 11) (v := .ref (q 1)) (C := RX13) (T := TX13) (N := 29) hx hb hts kc_RX13 hown hK hP 0 rfl rfl 5 (by decide) k_fieldLink_16 (fun _ h9 => h9) rfl dX13_racks_63 ?_
          refine lv_iload_n hx hb dX13_racks_66 rfl (lv_at hl 2 rfl) ?_
          refine lv_iconst (v := 0) hx hb dX13_racks_67 (by decide) ?_
          refine vp_callSi (W.runS (As := [.int (nI j), .int 0]) (rest := [.ref (q 1)]) hF (m_X13_rackAt l9 D k j 0 ) (va_cwS 2 hts gX13_racks_X13_rackAt rfl rfl rfl (by decide +kernel) ⟨Nat.le_of_ble_eq_true rfl, Nat.le_of_ble_eq_true rfl⟩) (rPreS hK hN hP [] rfl) rfl rfl hl.1 rfl (lv_room (Nat.le_of_ble_eq_true rfl)) dX13_racks_68 ⟨Nat.zero_le _, Nat.zero_le _⟩) (fun r_16 hr_16 => ?_)
          subst hr_16
          refine lv_iload_n hx hb dX13_racks_71 rfl (lv_at hl 3 rfl) ?_
          refine ia_st hx hb hK hP hD hS 1 rfl (35 + 4 * j + 0) (by omega) (by decide) (bMO k q th ea fa ch tn he en ln sv wr dg ++ bI83 k (q 1) (upd v (35 + 4 * j + 0) z)) rfl dX13_racks_72 (fun H locs hP hD hS => ?_)
          refine lv_iload_n hx hb dX13_racks_73 rfl (lv_at hl 0 rfl) ?_
          have e_17 : (th : Int32) = (opRacks v th (nI j) z).2.1 := by first | (with_reducible rfl) | ((try simp only [opRacks, clj]); (repeat (first | rw [if_pos (by first | assumption | exact Eq.trans (b := false) (by assumption) (Eq.symm (by assumption)) | exact Eq.trans (b := true) (by assumption) (Eq.symm (by assumption)) | exact ⟨by assumption, by assumption⟩ | exact Or.inl (by assumption) | exact Or.inr (by assumption) | exact Or.inr (Or.inl (by assumption)) | exact Or.inr (Or.inr (by assumption)) | (simp only [Int32.lt_iff_toInt_lt, Int32.le_iff_toInt_le, i32_0, i32_1, i32_2, i32_3, i32_4, i32_9, i32_10, i32_99, i32_100, i32_1000, i32_9999] at *; omega))] | rw [if_neg (by first | assumption | (rintro (h9 | h9 | h9) <;> contradiction) | (rintro (h9 | h9) <;> contradiction) | (intro h9; exact Bool.noConfusion (Eq.trans (c := false) h9.symm (by assumption))) | (rintro ⟨h8, h9⟩; exact Bool.noConfusion (Eq.trans (c := false) h8.symm (by assumption))) | (rintro ⟨h8, h9⟩; exact Bool.noConfusion (Eq.trans (c := false) h9.symm (by assumption))) | (simp only [Int32.lt_iff_toInt_lt, Int32.le_iff_toInt_le, i32_0, i32_1, i32_2, i32_3, i32_4, i32_9, i32_10, i32_99, i32_100, i32_1000, i32_9999] at *; omega))])); (try rfl))
          have hP := Eq.mp (congrArg (fun z9 => va_P D vwCl (bMO k q z9 ea fa ch tn he en ln sv wr dg ++ bI83 k (q 1) (upd v (35 + 4 * j + 0) z)) H) e_17) hP
          have hD := Eq.mp (congrArg (fun z9 => va_D A (bMO k q z9 ea fa ch tn he en ln sv wr dg ++ bI83 k (q 1) (upd v (35 + 4 * j + 0) z))) e_17) hD
          have e_18 : (upd v (35 + 4 * j + 0) z : Nat → Int32) = (opRacks v th (nI j) z).2.2 := by first | (with_reducible rfl) | ((try simp only [opRacks, clj]); (repeat (first | rw [if_pos (by first | assumption | exact Eq.trans (b := false) (by assumption) (Eq.symm (by assumption)) | exact Eq.trans (b := true) (by assumption) (Eq.symm (by assumption)) | exact ⟨by assumption, by assumption⟩ | exact Or.inl (by assumption) | exact Or.inr (by assumption) | exact Or.inr (Or.inl (by assumption)) | exact Or.inr (Or.inr (by assumption)) | (simp only [Int32.lt_iff_toInt_lt, Int32.le_iff_toInt_le, i32_0, i32_1, i32_2, i32_3, i32_4, i32_9, i32_10, i32_99, i32_100, i32_1000, i32_9999] at *; omega))] | rw [if_neg (by first | assumption | (rintro (h9 | h9 | h9) <;> contradiction) | (rintro (h9 | h9) <;> contradiction) | (intro h9; exact Bool.noConfusion (Eq.trans (c := false) h9.symm (by assumption))) | (rintro ⟨h8, h9⟩; exact Bool.noConfusion (Eq.trans (c := false) h8.symm (by assumption))) | (rintro ⟨h8, h9⟩; exact Bool.noConfusion (Eq.trans (c := false) h9.symm (by assumption))) | (simp only [Int32.lt_iff_toInt_lt, Int32.le_iff_toInt_le, i32_0, i32_1, i32_2, i32_3, i32_4, i32_9, i32_10, i32_99, i32_100, i32_1000, i32_9999] at *; omega))])); (try rfl))
          have hP := Eq.mp (congrArg (fun z9 => va_P D vwCl (bMO k q ((opRacks v th (nI j) z).2.1) ea fa ch tn he en ln sv wr dg ++ bI83 k (q 1) z9) H) e_18) hP
          have hD := Eq.mp (congrArg (fun z9 => va_D A (bMO k q ((opRacks v th (nI j) z).2.1) ea fa ch tn he en ln sv wr dg ++ bI83 k (q 1) z9)) e_18) hD
          exact W.iret (v := v (35 + 4 * j + 0)) hx hb hr (fun t9 ht hW => ⟨⟨_, (), rfl, (by (try simp only [opRacks, clj]); (repeat (first | rw [if_pos (by first | assumption | exact Eq.trans (b := false) (by assumption) (Eq.symm (by assumption)) | exact Eq.trans (b := true) (by assumption) (Eq.symm (by assumption)) | exact ⟨by assumption, by assumption⟩ | exact Or.inl (by assumption) | exact Or.inr (by assumption) | exact Or.inr (Or.inl (by assumption)) | exact Or.inr (Or.inr (by assumption)) | (simp only [Int32.lt_iff_toInt_lt, Int32.le_iff_toInt_le, i32_0, i32_1, i32_2, i32_3, i32_4, i32_9, i32_10, i32_99, i32_100, i32_1000, i32_9999] at *; omega))] | rw [if_neg (by first | assumption | (rintro (h9 | h9 | h9) <;> contradiction) | (rintro (h9 | h9) <;> contradiction) | (intro h9; exact Bool.noConfusion (Eq.trans (c := false) h9.symm (by assumption))) | (rintro ⟨h8, h9⟩; exact Bool.noConfusion (Eq.trans (c := false) h8.symm (by assumption))) | (rintro ⟨h8, h9⟩; exact Bool.noConfusion (Eq.trans (c := false) h9.symm (by assumption))) | (simp only [Int32.lt_iff_toInt_lt, Int32.le_iff_toInt_le, i32_0, i32_1, i32_2, i32_3, i32_4, i32_9, i32_10, i32_99, i32_100, i32_1000, i32_9999] at *; omega))])); (try rfl)), ⟨by rw [ht]; exact hP, va_K.moved hW.alike hK, hD⟩⟩, hS.F ht⟩) hS.2.2 dX13_racks_74 hlocks
        · skip
          refine lv_aload_n hx hb dX13_racks_45 rfl (lv_at hl 0 rfl) ?_
          refine lv_iconst (v := 3) hx hb dX13_racks_46 (by decide) ?_
          have hFc := va_free (wc := bMO k q th ea fa ch tn he en ln sv wr dg) hD hS hA [0] rfl
          refine va_calli (va_runV (As := [.int 3]) (rest := []) hF (m_X13_fail l9 D k H.size q th ea fa ch tn he en ln sv wr dg 3 ) (cwV 1 hts gX13_racks_X13_fail rfl rfl rfl (by decide +kernel) ⟨Nat.le_of_ble_eq_true rfl, Nat.le_of_ble_eq_true rfl⟩) (wPreV hK hN hP hD [0] rfl (by decide) rfl 0 11 rfl rfl) rfl rfl hl.1 rfl (lv_room (Nat.le_of_ble_eq_true rfl)) dX13_racks_47 ⟨Nat.zero_le _, Nat.zero_le _⟩) hS (fun q _ h => hFc q h) hFc (fun r u9 t9 H1 locs ht hvm hw hB hz1 hk1 hS => ?_)
          obtain ⟨hP, hD⟩ := wjoin (wr := bI83 k (q 1) v) (wf := bMO k q 3 ea fa ch tn he en ln sv wr dg ++ bI83 k (q 1) v) hP hD [0] [1] [1, 0] rfl rfl (by decide) (by decide) hk1 hFc hB ht rfl rfl (by decide)
          subst hw
          clear hB hk1 hz1 hvm hFc
          clear ht
          clear t9
          generalize H1 = H at hP hS ⊢
          have e_19 : (3 : Int32) = (opRacks v th (nI j) z).2.1 := by first | (with_reducible rfl) | ((try simp only [opRacks, clj]); (repeat (first | rw [if_pos (by first | assumption | exact Eq.trans (b := false) (by assumption) (Eq.symm (by assumption)) | exact Eq.trans (b := true) (by assumption) (Eq.symm (by assumption)) | exact ⟨by assumption, by assumption⟩ | exact Or.inl (by assumption) | exact Or.inr (by assumption) | exact Or.inr (Or.inl (by assumption)) | exact Or.inr (Or.inr (by assumption)) | (simp only [Int32.lt_iff_toInt_lt, Int32.le_iff_toInt_le, i32_0, i32_1, i32_2, i32_3, i32_4, i32_9, i32_10, i32_99, i32_100, i32_1000, i32_9999] at *; omega))] | rw [if_neg (by first | assumption | (rintro (h9 | h9 | h9) <;> contradiction) | (rintro (h9 | h9) <;> contradiction) | (intro h9; exact Bool.noConfusion (Eq.trans (c := false) h9.symm (by assumption))) | (rintro ⟨h8, h9⟩; exact Bool.noConfusion (Eq.trans (c := false) h8.symm (by assumption))) | (rintro ⟨h8, h9⟩; exact Bool.noConfusion (Eq.trans (c := false) h9.symm (by assumption))) | (simp only [Int32.lt_iff_toInt_lt, Int32.le_iff_toInt_le, i32_0, i32_1, i32_2, i32_3, i32_4, i32_9, i32_10, i32_99, i32_100, i32_1000, i32_9999] at *; omega))])); (try rfl))
          have hP := Eq.mp (congrArg (fun z9 => va_P D vwCl (bMO k q z9 ea fa ch tn he en ln sv wr dg ++ bI83 k (q 1) v) H) e_19) hP
          have hD := Eq.mp (congrArg (fun z9 => va_D A (bMO k q z9 ea fa ch tn he en ln sv wr dg ++ bI83 k (q 1) v)) e_19) hD
          have e_20 : (v : Nat → Int32) = (opRacks v th (nI j) z).2.2 := by first | (with_reducible rfl) | ((try simp only [opRacks, clj]); (repeat (first | rw [if_pos (by first | assumption | exact Eq.trans (b := false) (by assumption) (Eq.symm (by assumption)) | exact Eq.trans (b := true) (by assumption) (Eq.symm (by assumption)) | exact ⟨by assumption, by assumption⟩ | exact Or.inl (by assumption) | exact Or.inr (by assumption) | exact Or.inr (Or.inl (by assumption)) | exact Or.inr (Or.inr (by assumption)) | (simp only [Int32.lt_iff_toInt_lt, Int32.le_iff_toInt_le, i32_0, i32_1, i32_2, i32_3, i32_4, i32_9, i32_10, i32_99, i32_100, i32_1000, i32_9999] at *; omega))] | rw [if_neg (by first | assumption | (rintro (h9 | h9 | h9) <;> contradiction) | (rintro (h9 | h9) <;> contradiction) | (intro h9; exact Bool.noConfusion (Eq.trans (c := false) h9.symm (by assumption))) | (rintro ⟨h8, h9⟩; exact Bool.noConfusion (Eq.trans (c := false) h8.symm (by assumption))) | (rintro ⟨h8, h9⟩; exact Bool.noConfusion (Eq.trans (c := false) h9.symm (by assumption))) | (simp only [Int32.lt_iff_toInt_lt, Int32.le_iff_toInt_le, i32_0, i32_1, i32_2, i32_3, i32_4, i32_9, i32_10, i32_99, i32_100, i32_1000, i32_9999] at *; omega))])); (try rfl))
          have hP := Eq.mp (congrArg (fun z9 => va_P D vwCl (bMO k q ((opRacks v th (nI j) z).2.1) ea fa ch tn he en ln sv wr dg ++ bI83 k (q 1) z9) H) e_20) hP
          have hD := Eq.mp (congrArg (fun z9 => va_D A (bMO k q ((opRacks v th (nI j) z).2.1) ea fa ch tn he en ln sv wr dg ++ bI83 k (q 1) z9)) e_20) hD
          exact W.iret (v := 0) hx hb hr (fun t9 ht hW => ⟨⟨_, (), rfl, (by (try simp only [opRacks, clj]); (repeat (first | rw [if_pos (by first | assumption | exact Eq.trans (b := false) (by assumption) (Eq.symm (by assumption)) | exact Eq.trans (b := true) (by assumption) (Eq.symm (by assumption)) | exact ⟨by assumption, by assumption⟩ | exact Or.inl (by assumption) | exact Or.inr (by assumption) | exact Or.inr (Or.inl (by assumption)) | exact Or.inr (Or.inr (by assumption)) | (simp only [Int32.lt_iff_toInt_lt, Int32.le_iff_toInt_le, i32_0, i32_1, i32_2, i32_3, i32_4, i32_9, i32_10, i32_99, i32_100, i32_1000, i32_9999] at *; omega))] | rw [if_neg (by first | assumption | (rintro (h9 | h9 | h9) <;> contradiction) | (rintro (h9 | h9) <;> contradiction) | (intro h9; exact Bool.noConfusion (Eq.trans (c := false) h9.symm (by assumption))) | (rintro ⟨h8, h9⟩; exact Bool.noConfusion (Eq.trans (c := false) h8.symm (by assumption))) | (rintro ⟨h8, h9⟩; exact Bool.noConfusion (Eq.trans (c := false) h9.symm (by assumption))) | (simp only [Int32.lt_iff_toInt_lt, Int32.le_iff_toInt_le, i32_0, i32_1, i32_2, i32_3, i32_4, i32_9, i32_10, i32_99, i32_100, i32_1000, i32_9999] at *; omega))])); (try rfl)), ⟨by rw [ht]; exact hP, va_K.moved hW.alike hK, hD⟩⟩, hS.F ht⟩) hS.2.2 dX13_racks_50 hlocks
      · skip
        refine lv_iload_n hx hb dX13_racks_25 rfl (lv_at hl 2 rfl) ?_
        refine lv_bipush (v := 97) hx hb dX13_racks_26 (by decide) ?_
        refine lv_icmp_eq (tgt := 37) hx hb dX13_racks_28 (by decide) (fun c_21 => ?_) (fun c_21 => ?_)
        · skip
          refine lv_aload_n hx hb dX13_racks_37 rfl (lv_at hl 0 rfl) ?_
          refine lv_iload_n hx hb dX13_racks_38 rfl (lv_at hl 1 rfl) ?_
          refine vp_callSi (W.runV (As := [.int (nI j)]) (rest := []) hF (m_X13_depth l9 D k q th ea fa ch tn he en ln sv wr dg v j (by omega)) (cwV 1 hts gX13_racks_X13_depth rfl rfl rfl (by decide +kernel) ⟨Nat.le_of_ble_eq_true rfl, Nat.le_of_ble_eq_true rfl⟩) (rPreV hK hN hP [0, 1] rfl 0 11 rfl rfl) rfl rfl hl.1 rfl (lv_room (Nat.le_of_ble_eq_true rfl)) dX13_racks_39 ⟨Nat.zero_le _, Nat.zero_le _⟩) (fun r_22 hr_22 => ?_)
          subst hr_22
          refine lv_if_le (tgt := 51) hx hb dX13_racks_42 (by decide) (fun c_23 => ?_) (fun c_23 => ?_)
          · skip
            refine lv_aload_n hx hb dX13_racks_51 rfl (lv_at hl 0 rfl) ?_
            refine va_get (D := D) (ci := 11) (v := .ref (q 1)) (C := RX13) (T := TX13) (N := 29) hx hb hts kc_RX13 hown hK hP 0 rfl rfl 5 (by decide) k_fieldLink_16 (fun _ h9 => h9) rfl dX13_racks_52 ?_
            refine lv_iload_n hx hb dX13_racks_55 rfl (lv_at hl 1 rfl) ?_
            refine lv_iconst (v := 0) hx hb dX13_racks_56 (by decide) ?_
            refine vp_callSi (W.runS (As := [.int (nI j), .int 0]) (rest := [.ref (q 1)]) hF (m_X13_rackAt l9 D k j 0 ) (va_cwS 2 hts gX13_racks_X13_rackAt rfl rfl rfl (by decide +kernel) ⟨Nat.le_of_ble_eq_true rfl, Nat.le_of_ble_eq_true rfl⟩) (rPreS hK hN hP [] rfl) rfl rfl hl.1 rfl (lv_room (Nat.le_of_ble_eq_true rfl)) dX13_racks_57 ⟨Nat.zero_le _, Nat.zero_le _⟩) (fun r_24 hr_24 => ?_)
            subst hr_24
            refine ia_ld hx hb hK hP 1 rfl (35 + 4 * j + 0) (by omega) (by decide) dX13_racks_60 ?_
            refine lv_istore_n (lv' := [(3, .int (v (35 + 4 * j + 0))), (0, .ref (q 0)), (1, .int (nI j)), (2, .int z)]) hx hb dX13_racks_61 rfl hl (by decide) rfl (fun ls hl => ?_)
            refine lv_aload_n hx hb dX13_racks_62 rfl (lv_at hl 1 rfl) ?_
            refine va_get (D := D) (ci := 11) (v := .ref (q 1)) (C := RX13) (T := TX13) (N := 29) hx hb hts kc_RX13 hown hK hP 0 rfl rfl 5 (by decide) k_fieldLink_16 (fun _ h9 => h9) rfl dX13_racks_63 ?_
            refine lv_iload_n hx hb dX13_racks_66 rfl (lv_at hl 2 rfl) ?_
            refine lv_iconst (v := 0) hx hb dX13_racks_67 (by decide) ?_
            refine vp_callSi (W.runS (As := [.int (nI j), .int 0]) (rest := [.ref (q 1)]) hF (m_X13_rackAt l9 D k j 0 ) (va_cwS 2 hts gX13_racks_X13_rackAt rfl rfl rfl (by decide +kernel) ⟨Nat.le_of_ble_eq_true rfl, Nat.le_of_ble_eq_true rfl⟩) (rPreS hK hN hP [] rfl) rfl rfl hl.1 rfl (lv_room (Nat.le_of_ble_eq_true rfl)) dX13_racks_68 ⟨Nat.zero_le _, Nat.zero_le _⟩) (fun r_25 hr_25 => ?_)
            subst hr_25
            refine lv_iload_n hx hb dX13_racks_71 rfl (lv_at hl 3 rfl) ?_
            refine ia_st hx hb hK hP hD hS 1 rfl (35 + 4 * j + 0) (by omega) (by decide) (bMO k q th ea fa ch tn he en ln sv wr dg ++ bI83 k (q 1) (upd v (35 + 4 * j + 0) z)) rfl dX13_racks_72 (fun H locs hP hD hS => ?_)
            refine lv_iload_n hx hb dX13_racks_73 rfl (lv_at hl 0 rfl) ?_
            have e_26 : (th : Int32) = (opRacks v th (nI j) z).2.1 := by first | (with_reducible rfl) | ((try simp only [opRacks, clj]); (repeat (first | rw [if_pos (by first | assumption | exact Eq.trans (b := false) (by assumption) (Eq.symm (by assumption)) | exact Eq.trans (b := true) (by assumption) (Eq.symm (by assumption)) | exact ⟨by assumption, by assumption⟩ | exact Or.inl (by assumption) | exact Or.inr (by assumption) | exact Or.inr (Or.inl (by assumption)) | exact Or.inr (Or.inr (by assumption)) | (simp only [Int32.lt_iff_toInt_lt, Int32.le_iff_toInt_le, i32_0, i32_1, i32_2, i32_3, i32_4, i32_9, i32_10, i32_99, i32_100, i32_1000, i32_9999] at *; omega))] | rw [if_neg (by first | assumption | (rintro (h9 | h9 | h9) <;> contradiction) | (rintro (h9 | h9) <;> contradiction) | (intro h9; exact Bool.noConfusion (Eq.trans (c := false) h9.symm (by assumption))) | (rintro ⟨h8, h9⟩; exact Bool.noConfusion (Eq.trans (c := false) h8.symm (by assumption))) | (rintro ⟨h8, h9⟩; exact Bool.noConfusion (Eq.trans (c := false) h9.symm (by assumption))) | (simp only [Int32.lt_iff_toInt_lt, Int32.le_iff_toInt_le, i32_0, i32_1, i32_2, i32_3, i32_4, i32_9, i32_10, i32_99, i32_100, i32_1000, i32_9999] at *; omega))])); (try rfl))
            have hP := Eq.mp (congrArg (fun z9 => va_P D vwCl (bMO k q z9 ea fa ch tn he en ln sv wr dg ++ bI83 k (q 1) (upd v (35 + 4 * j + 0) z)) H) e_26) hP
            have hD := Eq.mp (congrArg (fun z9 => va_D A (bMO k q z9 ea fa ch tn he en ln sv wr dg ++ bI83 k (q 1) (upd v (35 + 4 * j + 0) z))) e_26) hD
            have e_27 : (upd v (35 + 4 * j + 0) z : Nat → Int32) = (opRacks v th (nI j) z).2.2 := by first | (with_reducible rfl) | ((try simp only [opRacks, clj]); (repeat (first | rw [if_pos (by first | assumption | exact Eq.trans (b := false) (by assumption) (Eq.symm (by assumption)) | exact Eq.trans (b := true) (by assumption) (Eq.symm (by assumption)) | exact ⟨by assumption, by assumption⟩ | exact Or.inl (by assumption) | exact Or.inr (by assumption) | exact Or.inr (Or.inl (by assumption)) | exact Or.inr (Or.inr (by assumption)) | (simp only [Int32.lt_iff_toInt_lt, Int32.le_iff_toInt_le, i32_0, i32_1, i32_2, i32_3, i32_4, i32_9, i32_10, i32_99, i32_100, i32_1000, i32_9999] at *; omega))] | rw [if_neg (by first | assumption | (rintro (h9 | h9 | h9) <;> contradiction) | (rintro (h9 | h9) <;> contradiction) | (intro h9; exact Bool.noConfusion (Eq.trans (c := false) h9.symm (by assumption))) | (rintro ⟨h8, h9⟩; exact Bool.noConfusion (Eq.trans (c := false) h8.symm (by assumption))) | (rintro ⟨h8, h9⟩; exact Bool.noConfusion (Eq.trans (c := false) h9.symm (by assumption))) | (simp only [Int32.lt_iff_toInt_lt, Int32.le_iff_toInt_le, i32_0, i32_1, i32_2, i32_3, i32_4, i32_9, i32_10, i32_99, i32_100, i32_1000, i32_9999] at *; omega))])); (try rfl))
            have hP := Eq.mp (congrArg (fun z9 => va_P D vwCl (bMO k q ((opRacks v th (nI j) z).2.1) ea fa ch tn he en ln sv wr dg ++ bI83 k (q 1) z9) H) e_27) hP
            have hD := Eq.mp (congrArg (fun z9 => va_D A (bMO k q ((opRacks v th (nI j) z).2.1) ea fa ch tn he en ln sv wr dg ++ bI83 k (q 1) z9)) e_27) hD
            exact W.iret (v := v (35 + 4 * j + 0)) hx hb hr (fun t9 ht hW => ⟨⟨_, (), rfl, (by (try simp only [opRacks, clj]); (repeat (first | rw [if_pos (by first | assumption | exact Eq.trans (b := false) (by assumption) (Eq.symm (by assumption)) | exact Eq.trans (b := true) (by assumption) (Eq.symm (by assumption)) | exact ⟨by assumption, by assumption⟩ | exact Or.inl (by assumption) | exact Or.inr (by assumption) | exact Or.inr (Or.inl (by assumption)) | exact Or.inr (Or.inr (by assumption)) | (simp only [Int32.lt_iff_toInt_lt, Int32.le_iff_toInt_le, i32_0, i32_1, i32_2, i32_3, i32_4, i32_9, i32_10, i32_99, i32_100, i32_1000, i32_9999] at *; omega))] | rw [if_neg (by first | assumption | (rintro (h9 | h9 | h9) <;> contradiction) | (rintro (h9 | h9) <;> contradiction) | (intro h9; exact Bool.noConfusion (Eq.trans (c := false) h9.symm (by assumption))) | (rintro ⟨h8, h9⟩; exact Bool.noConfusion (Eq.trans (c := false) h8.symm (by assumption))) | (rintro ⟨h8, h9⟩; exact Bool.noConfusion (Eq.trans (c := false) h9.symm (by assumption))) | (simp only [Int32.lt_iff_toInt_lt, Int32.le_iff_toInt_le, i32_0, i32_1, i32_2, i32_3, i32_4, i32_9, i32_10, i32_99, i32_100, i32_1000, i32_9999] at *; omega))])); (try rfl)), ⟨by rw [ht]; exact hP, va_K.moved hW.alike hK, hD⟩⟩, hS.F ht⟩) hS.2.2 dX13_racks_74 hlocks
          · skip
            refine lv_aload_n hx hb dX13_racks_45 rfl (lv_at hl 0 rfl) ?_
            refine lv_iconst (v := 3) hx hb dX13_racks_46 (by decide) ?_
            have hFc := va_free (wc := bMO k q th ea fa ch tn he en ln sv wr dg) hD hS hA [0] rfl
            refine va_calli (va_runV (As := [.int 3]) (rest := []) hF (m_X13_fail l9 D k H.size q th ea fa ch tn he en ln sv wr dg 3 ) (cwV 1 hts gX13_racks_X13_fail rfl rfl rfl (by decide +kernel) ⟨Nat.le_of_ble_eq_true rfl, Nat.le_of_ble_eq_true rfl⟩) (wPreV hK hN hP hD [0] rfl (by decide) rfl 0 11 rfl rfl) rfl rfl hl.1 rfl (lv_room (Nat.le_of_ble_eq_true rfl)) dX13_racks_47 ⟨Nat.zero_le _, Nat.zero_le _⟩) hS (fun q _ h => hFc q h) hFc (fun r u9 t9 H1 locs ht hvm hw hB hz1 hk1 hS => ?_)
            obtain ⟨hP, hD⟩ := wjoin (wr := bI83 k (q 1) v) (wf := bMO k q 3 ea fa ch tn he en ln sv wr dg ++ bI83 k (q 1) v) hP hD [0] [1] [1, 0] rfl rfl (by decide) (by decide) hk1 hFc hB ht rfl rfl (by decide)
            subst hw
            clear hB hk1 hz1 hvm hFc
            clear ht
            clear t9
            generalize H1 = H at hP hS ⊢
            have e_28 : (3 : Int32) = (opRacks v th (nI j) z).2.1 := by first | (with_reducible rfl) | ((try simp only [opRacks, clj]); (repeat (first | rw [if_pos (by first | assumption | exact Eq.trans (b := false) (by assumption) (Eq.symm (by assumption)) | exact Eq.trans (b := true) (by assumption) (Eq.symm (by assumption)) | exact ⟨by assumption, by assumption⟩ | exact Or.inl (by assumption) | exact Or.inr (by assumption) | exact Or.inr (Or.inl (by assumption)) | exact Or.inr (Or.inr (by assumption)) | (simp only [Int32.lt_iff_toInt_lt, Int32.le_iff_toInt_le, i32_0, i32_1, i32_2, i32_3, i32_4, i32_9, i32_10, i32_99, i32_100, i32_1000, i32_9999] at *; omega))] | rw [if_neg (by first | assumption | (rintro (h9 | h9 | h9) <;> contradiction) | (rintro (h9 | h9) <;> contradiction) | (intro h9; exact Bool.noConfusion (Eq.trans (c := false) h9.symm (by assumption))) | (rintro ⟨h8, h9⟩; exact Bool.noConfusion (Eq.trans (c := false) h8.symm (by assumption))) | (rintro ⟨h8, h9⟩; exact Bool.noConfusion (Eq.trans (c := false) h9.symm (by assumption))) | (simp only [Int32.lt_iff_toInt_lt, Int32.le_iff_toInt_le, i32_0, i32_1, i32_2, i32_3, i32_4, i32_9, i32_10, i32_99, i32_100, i32_1000, i32_9999] at *; omega))])); (try rfl))
            have hP := Eq.mp (congrArg (fun z9 => va_P D vwCl (bMO k q z9 ea fa ch tn he en ln sv wr dg ++ bI83 k (q 1) v) H) e_28) hP
            have hD := Eq.mp (congrArg (fun z9 => va_D A (bMO k q z9 ea fa ch tn he en ln sv wr dg ++ bI83 k (q 1) v)) e_28) hD
            have e_29 : (v : Nat → Int32) = (opRacks v th (nI j) z).2.2 := by first | (with_reducible rfl) | ((try simp only [opRacks, clj]); (repeat (first | rw [if_pos (by first | assumption | exact Eq.trans (b := false) (by assumption) (Eq.symm (by assumption)) | exact Eq.trans (b := true) (by assumption) (Eq.symm (by assumption)) | exact ⟨by assumption, by assumption⟩ | exact Or.inl (by assumption) | exact Or.inr (by assumption) | exact Or.inr (Or.inl (by assumption)) | exact Or.inr (Or.inr (by assumption)) | (simp only [Int32.lt_iff_toInt_lt, Int32.le_iff_toInt_le, i32_0, i32_1, i32_2, i32_3, i32_4, i32_9, i32_10, i32_99, i32_100, i32_1000, i32_9999] at *; omega))] | rw [if_neg (by first | assumption | (rintro (h9 | h9 | h9) <;> contradiction) | (rintro (h9 | h9) <;> contradiction) | (intro h9; exact Bool.noConfusion (Eq.trans (c := false) h9.symm (by assumption))) | (rintro ⟨h8, h9⟩; exact Bool.noConfusion (Eq.trans (c := false) h8.symm (by assumption))) | (rintro ⟨h8, h9⟩; exact Bool.noConfusion (Eq.trans (c := false) h9.symm (by assumption))) | (simp only [Int32.lt_iff_toInt_lt, Int32.le_iff_toInt_le, i32_0, i32_1, i32_2, i32_3, i32_4, i32_9, i32_10, i32_99, i32_100, i32_1000, i32_9999] at *; omega))])); (try rfl))
            have hP := Eq.mp (congrArg (fun z9 => va_P D vwCl (bMO k q ((opRacks v th (nI j) z).2.1) ea fa ch tn he en ln sv wr dg ++ bI83 k (q 1) z9) H) e_29) hP
            have hD := Eq.mp (congrArg (fun z9 => va_D A (bMO k q ((opRacks v th (nI j) z).2.1) ea fa ch tn he en ln sv wr dg ++ bI83 k (q 1) z9)) e_29) hD
            exact W.iret (v := 0) hx hb hr (fun t9 ht hW => ⟨⟨_, (), rfl, (by (try simp only [opRacks, clj]); (repeat (first | rw [if_pos (by first | assumption | exact Eq.trans (b := false) (by assumption) (Eq.symm (by assumption)) | exact Eq.trans (b := true) (by assumption) (Eq.symm (by assumption)) | exact ⟨by assumption, by assumption⟩ | exact Or.inl (by assumption) | exact Or.inr (by assumption) | exact Or.inr (Or.inl (by assumption)) | exact Or.inr (Or.inr (by assumption)) | (simp only [Int32.lt_iff_toInt_lt, Int32.le_iff_toInt_le, i32_0, i32_1, i32_2, i32_3, i32_4, i32_9, i32_10, i32_99, i32_100, i32_1000, i32_9999] at *; omega))] | rw [if_neg (by first | assumption | (rintro (h9 | h9 | h9) <;> contradiction) | (rintro (h9 | h9) <;> contradiction) | (intro h9; exact Bool.noConfusion (Eq.trans (c := false) h9.symm (by assumption))) | (rintro ⟨h8, h9⟩; exact Bool.noConfusion (Eq.trans (c := false) h8.symm (by assumption))) | (rintro ⟨h8, h9⟩; exact Bool.noConfusion (Eq.trans (c := false) h9.symm (by assumption))) | (simp only [Int32.lt_iff_toInt_lt, Int32.le_iff_toInt_le, i32_0, i32_1, i32_2, i32_3, i32_4, i32_9, i32_10, i32_99, i32_100, i32_1000, i32_9999] at *; omega))])); (try rfl)), ⟨by rw [ht]; exact hP, va_K.moved hW.alike hK, hD⟩⟩, hS.F ht⟩) hS.2.2 dX13_racks_50 hlocks
        · skip
          refine lv_aload_n hx hb dX13_racks_31 rfl (lv_at hl 0 rfl) ?_
          refine lv_iconst (v := 2) hx hb dX13_racks_32 (by decide) ?_
          have hFc := va_free (wc := bMO k q th ea fa ch tn he en ln sv wr dg) hD hS hA [0] rfl
          refine va_calli (va_runV (As := [.int 2]) (rest := []) hF (m_X13_fail l9 D k H.size q th ea fa ch tn he en ln sv wr dg 2 ) (cwV 1 hts gX13_racks_X13_fail rfl rfl rfl (by decide +kernel) ⟨Nat.le_of_ble_eq_true rfl, Nat.le_of_ble_eq_true rfl⟩) (wPreV hK hN hP hD [0] rfl (by decide) rfl 0 11 rfl rfl) rfl rfl hl.1 rfl (lv_room (Nat.le_of_ble_eq_true rfl)) dX13_racks_33 ⟨Nat.zero_le _, Nat.zero_le _⟩) hS (fun q _ h => hFc q h) hFc (fun r u9 t9 H1 locs ht hvm hw hB hz1 hk1 hS => ?_)
          obtain ⟨hP, hD⟩ := wjoin (wr := bI83 k (q 1) v) (wf := bMO k q 2 ea fa ch tn he en ln sv wr dg ++ bI83 k (q 1) v) hP hD [0] [1] [1, 0] rfl rfl (by decide) (by decide) hk1 hFc hB ht rfl rfl (by decide)
          subst hw
          clear hB hk1 hz1 hvm hFc
          clear ht
          clear t9
          generalize H1 = H at hP hS ⊢
          have e_30 : (2 : Int32) = (opRacks v th (nI j) z).2.1 := by first | (with_reducible rfl) | ((try simp only [opRacks, clj]); (repeat (first | rw [if_pos (by first | assumption | exact Eq.trans (b := false) (by assumption) (Eq.symm (by assumption)) | exact Eq.trans (b := true) (by assumption) (Eq.symm (by assumption)) | exact ⟨by assumption, by assumption⟩ | exact Or.inl (by assumption) | exact Or.inr (by assumption) | exact Or.inr (Or.inl (by assumption)) | exact Or.inr (Or.inr (by assumption)) | (simp only [Int32.lt_iff_toInt_lt, Int32.le_iff_toInt_le, i32_0, i32_1, i32_2, i32_3, i32_4, i32_9, i32_10, i32_99, i32_100, i32_1000, i32_9999] at *; omega))] | rw [if_neg (by first | assumption | (rintro (h9 | h9 | h9) <;> contradiction) | (rintro (h9 | h9) <;> contradiction) | (intro h9; exact Bool.noConfusion (Eq.trans (c := false) h9.symm (by assumption))) | (rintro ⟨h8, h9⟩; exact Bool.noConfusion (Eq.trans (c := false) h8.symm (by assumption))) | (rintro ⟨h8, h9⟩; exact Bool.noConfusion (Eq.trans (c := false) h9.symm (by assumption))) | (simp only [Int32.lt_iff_toInt_lt, Int32.le_iff_toInt_le, i32_0, i32_1, i32_2, i32_3, i32_4, i32_9, i32_10, i32_99, i32_100, i32_1000, i32_9999] at *; omega))])); (try rfl))
          have hP := Eq.mp (congrArg (fun z9 => va_P D vwCl (bMO k q z9 ea fa ch tn he en ln sv wr dg ++ bI83 k (q 1) v) H) e_30) hP
          have hD := Eq.mp (congrArg (fun z9 => va_D A (bMO k q z9 ea fa ch tn he en ln sv wr dg ++ bI83 k (q 1) v)) e_30) hD
          have e_31 : (v : Nat → Int32) = (opRacks v th (nI j) z).2.2 := by first | (with_reducible rfl) | ((try simp only [opRacks, clj]); (repeat (first | rw [if_pos (by first | assumption | exact Eq.trans (b := false) (by assumption) (Eq.symm (by assumption)) | exact Eq.trans (b := true) (by assumption) (Eq.symm (by assumption)) | exact ⟨by assumption, by assumption⟩ | exact Or.inl (by assumption) | exact Or.inr (by assumption) | exact Or.inr (Or.inl (by assumption)) | exact Or.inr (Or.inr (by assumption)) | (simp only [Int32.lt_iff_toInt_lt, Int32.le_iff_toInt_le, i32_0, i32_1, i32_2, i32_3, i32_4, i32_9, i32_10, i32_99, i32_100, i32_1000, i32_9999] at *; omega))] | rw [if_neg (by first | assumption | (rintro (h9 | h9 | h9) <;> contradiction) | (rintro (h9 | h9) <;> contradiction) | (intro h9; exact Bool.noConfusion (Eq.trans (c := false) h9.symm (by assumption))) | (rintro ⟨h8, h9⟩; exact Bool.noConfusion (Eq.trans (c := false) h8.symm (by assumption))) | (rintro ⟨h8, h9⟩; exact Bool.noConfusion (Eq.trans (c := false) h9.symm (by assumption))) | (simp only [Int32.lt_iff_toInt_lt, Int32.le_iff_toInt_le, i32_0, i32_1, i32_2, i32_3, i32_4, i32_9, i32_10, i32_99, i32_100, i32_1000, i32_9999] at *; omega))])); (try rfl))
          have hP := Eq.mp (congrArg (fun z9 => va_P D vwCl (bMO k q ((opRacks v th (nI j) z).2.1) ea fa ch tn he en ln sv wr dg ++ bI83 k (q 1) z9) H) e_31) hP
          have hD := Eq.mp (congrArg (fun z9 => va_D A (bMO k q ((opRacks v th (nI j) z).2.1) ea fa ch tn he en ln sv wr dg ++ bI83 k (q 1) z9)) e_31) hD
          exact W.iret (v := 0) hx hb hr (fun t9 ht hW => ⟨⟨_, (), rfl, (by (try simp only [opRacks, clj]); (repeat (first | rw [if_pos (by first | assumption | exact Eq.trans (b := false) (by assumption) (Eq.symm (by assumption)) | exact Eq.trans (b := true) (by assumption) (Eq.symm (by assumption)) | exact ⟨by assumption, by assumption⟩ | exact Or.inl (by assumption) | exact Or.inr (by assumption) | exact Or.inr (Or.inl (by assumption)) | exact Or.inr (Or.inr (by assumption)) | (simp only [Int32.lt_iff_toInt_lt, Int32.le_iff_toInt_le, i32_0, i32_1, i32_2, i32_3, i32_4, i32_9, i32_10, i32_99, i32_100, i32_1000, i32_9999] at *; omega))] | rw [if_neg (by first | assumption | (rintro (h9 | h9 | h9) <;> contradiction) | (rintro (h9 | h9) <;> contradiction) | (intro h9; exact Bool.noConfusion (Eq.trans (c := false) h9.symm (by assumption))) | (rintro ⟨h8, h9⟩; exact Bool.noConfusion (Eq.trans (c := false) h8.symm (by assumption))) | (rintro ⟨h8, h9⟩; exact Bool.noConfusion (Eq.trans (c := false) h9.symm (by assumption))) | (simp only [Int32.lt_iff_toInt_lt, Int32.le_iff_toInt_le, i32_0, i32_1, i32_2, i32_3, i32_4, i32_9, i32_10, i32_99, i32_100, i32_1000, i32_9999] at *; omega))])); (try rfl)), ⟨by rw [ht]; exact hP, va_K.moved hW.alike hK, hD⟩⟩, hS.F ht⟩) hS.2.2 dX13_racks_36 hlocks
  · skip
    have c_2 : (rg 0 x 3) = false := bI_0 c_2
    refine lv_aload_n hx hb dX13_racks_7 rfl (lv_at hl 0 rfl) ?_
    refine lv_iconst (v := 1) hx hb dX13_racks_8 (by decide) ?_
    have hFc := va_free (wc := bMO k q th ea fa ch tn he en ln sv wr dg) hD hS hA [0] rfl
    refine va_calli (va_runV (As := [.int 1]) (rest := []) hF (m_X13_fail l9 D k H.size q th ea fa ch tn he en ln sv wr dg 1 ) (cwV 1 hts gX13_racks_X13_fail rfl rfl rfl (by decide +kernel) ⟨Nat.le_of_ble_eq_true rfl, Nat.le_of_ble_eq_true rfl⟩) (wPreV hK hN hP hD [0] rfl (by decide) rfl 0 11 rfl rfl) rfl rfl hl.1 rfl (lv_room (Nat.le_of_ble_eq_true rfl)) dX13_racks_9 ⟨Nat.zero_le _, Nat.zero_le _⟩) hS (fun q _ h => hFc q h) hFc (fun r u9 t9 H1 locs ht hvm hw hB hz1 hk1 hS => ?_)
    obtain ⟨hP, hD⟩ := wjoin (wr := bI83 k (q 1) v) (wf := bMO k q 1 ea fa ch tn he en ln sv wr dg ++ bI83 k (q 1) v) hP hD [0] [1] [1, 0] rfl rfl (by decide) (by decide) hk1 hFc hB ht rfl rfl (by decide)
    subst hw
    clear hB hk1 hz1 hvm hFc
    clear ht
    clear t9
    generalize H1 = H at hP hS ⊢
    have e_32 : (1 : Int32) = (opRacks v th x z).2.1 := by first | (with_reducible rfl) | ((try simp only [opRacks]); (repeat (first | rw [if_pos (by first | assumption | exact Eq.trans (b := false) (by assumption) (Eq.symm (by assumption)) | exact Eq.trans (b := true) (by assumption) (Eq.symm (by assumption)) | exact ⟨by assumption, by assumption⟩ | exact Or.inl (by assumption) | exact Or.inr (by assumption) | exact Or.inr (Or.inl (by assumption)) | exact Or.inr (Or.inr (by assumption)) | (simp only [Int32.lt_iff_toInt_lt, Int32.le_iff_toInt_le, i32_0, i32_1, i32_2, i32_3, i32_4, i32_9, i32_10, i32_99, i32_100, i32_1000, i32_9999] at *; omega))] | rw [if_neg (by first | assumption | (rintro (h9 | h9 | h9) <;> contradiction) | (rintro (h9 | h9) <;> contradiction) | (intro h9; exact Bool.noConfusion (Eq.trans (c := false) h9.symm (by assumption))) | (rintro ⟨h8, h9⟩; exact Bool.noConfusion (Eq.trans (c := false) h8.symm (by assumption))) | (rintro ⟨h8, h9⟩; exact Bool.noConfusion (Eq.trans (c := false) h9.symm (by assumption))) | (simp only [Int32.lt_iff_toInt_lt, Int32.le_iff_toInt_le, i32_0, i32_1, i32_2, i32_3, i32_4, i32_9, i32_10, i32_99, i32_100, i32_1000, i32_9999] at *; omega))])); (try rfl))
    have hP := Eq.mp (congrArg (fun z9 => va_P D vwCl (bMO k q z9 ea fa ch tn he en ln sv wr dg ++ bI83 k (q 1) v) H) e_32) hP
    have hD := Eq.mp (congrArg (fun z9 => va_D A (bMO k q z9 ea fa ch tn he en ln sv wr dg ++ bI83 k (q 1) v)) e_32) hD
    have e_33 : (v : Nat → Int32) = (opRacks v th x z).2.2 := by first | (with_reducible rfl) | ((try simp only [opRacks]); (repeat (first | rw [if_pos (by first | assumption | exact Eq.trans (b := false) (by assumption) (Eq.symm (by assumption)) | exact Eq.trans (b := true) (by assumption) (Eq.symm (by assumption)) | exact ⟨by assumption, by assumption⟩ | exact Or.inl (by assumption) | exact Or.inr (by assumption) | exact Or.inr (Or.inl (by assumption)) | exact Or.inr (Or.inr (by assumption)) | (simp only [Int32.lt_iff_toInt_lt, Int32.le_iff_toInt_le, i32_0, i32_1, i32_2, i32_3, i32_4, i32_9, i32_10, i32_99, i32_100, i32_1000, i32_9999] at *; omega))] | rw [if_neg (by first | assumption | (rintro (h9 | h9 | h9) <;> contradiction) | (rintro (h9 | h9) <;> contradiction) | (intro h9; exact Bool.noConfusion (Eq.trans (c := false) h9.symm (by assumption))) | (rintro ⟨h8, h9⟩; exact Bool.noConfusion (Eq.trans (c := false) h8.symm (by assumption))) | (rintro ⟨h8, h9⟩; exact Bool.noConfusion (Eq.trans (c := false) h9.symm (by assumption))) | (simp only [Int32.lt_iff_toInt_lt, Int32.le_iff_toInt_le, i32_0, i32_1, i32_2, i32_3, i32_4, i32_9, i32_10, i32_99, i32_100, i32_1000, i32_9999] at *; omega))])); (try rfl))
    have hP := Eq.mp (congrArg (fun z9 => va_P D vwCl (bMO k q ((opRacks v th x z).2.1) ea fa ch tn he en ln sv wr dg ++ bI83 k (q 1) z9) H) e_33) hP
    have hD := Eq.mp (congrArg (fun z9 => va_D A (bMO k q ((opRacks v th x z).2.1) ea fa ch tn he en ln sv wr dg ++ bI83 k (q 1) z9)) e_33) hD
    exact W.iret (v := 0) hx hb hr (fun t9 ht hW => ⟨⟨_, (), rfl, (by (try simp only [opRacks]); (repeat (first | rw [if_pos (by first | assumption | exact Eq.trans (b := false) (by assumption) (Eq.symm (by assumption)) | exact Eq.trans (b := true) (by assumption) (Eq.symm (by assumption)) | exact ⟨by assumption, by assumption⟩ | exact Or.inl (by assumption) | exact Or.inr (by assumption) | exact Or.inr (Or.inl (by assumption)) | exact Or.inr (Or.inr (by assumption)) | (simp only [Int32.lt_iff_toInt_lt, Int32.le_iff_toInt_le, i32_0, i32_1, i32_2, i32_3, i32_4, i32_9, i32_10, i32_99, i32_100, i32_1000, i32_9999] at *; omega))] | rw [if_neg (by first | assumption | (rintro (h9 | h9 | h9) <;> contradiction) | (rintro (h9 | h9) <;> contradiction) | (intro h9; exact Bool.noConfusion (Eq.trans (c := false) h9.symm (by assumption))) | (rintro ⟨h8, h9⟩; exact Bool.noConfusion (Eq.trans (c := false) h8.symm (by assumption))) | (rintro ⟨h8, h9⟩; exact Bool.noConfusion (Eq.trans (c := false) h9.symm (by assumption))) | (simp only [Int32.lt_iff_toInt_lt, Int32.le_iff_toInt_le, i32_0, i32_1, i32_2, i32_3, i32_4, i32_9, i32_10, i32_99, i32_100, i32_1000, i32_9999] at *; omega))])); (try rfl)), ⟨by rw [ht]; exact hP, va_K.moved hW.alike hK, hD⟩⟩, hS.F ht⟩) hS.2.2 dX13_racks_12 hlocks
