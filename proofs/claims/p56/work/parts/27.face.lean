/-! The class's face: what it reads, what it writes without refusing. -/
theorem low_all {n : Nat} (h : n ≤ 10) : lowB (nI (pw n - 1)) := by
  intro j hj
  by_cases q : j < 32
  · have : ∀ n : Nat, n ≤ 10 → ∀ j : Nat, j < 32 → 10 ≤ j → tb (nI (pw n - 1)) j = false := by decide +kernel
    exact this n h j q hj
  · exact tb_out (by omega)
/-- what is written behind the line's end is lost -/
def wrC (s : (Nat → Int32) × Nat) (x : Int32) : (Nat → Int32) × Nat := if s.2 < 19 then (upd s.1 s.2 x, s.2 + 1) else s
theorem wrC_le {s : (Nat → Int32) × Nat} (h : s.2 ≤ 19) (x : Int32) : (wrC s x).2 ≤ 19 := by
  unfold wrC
  split
  · show s.2 + 1 ≤ 19
    omega
  · exact h
def ssS (n : Nat) (t a : Nat → Int32) (j : Nat) : Int32 := if tb (accS n t a) j = true then 43 else if tb (orS n t (accS n t a)) j = true then 45 else 63
theorem ss_nar (n : Nat) (t a : Nat → Int32) (j : Nat) : vp_nar .char (ssS n t a j) = ssS n t a j := by
  unfold ssS
  split
  · rfl
  · split <;> rfl
theorem wrC_in {le : Nat → Int32} {ll : Nat} {x : Int32} (h : ll < 19) : wrC (le, ll) x = (upd le ll x, ll + 1) := if_pos h
theorem wrC_out {le : Nat → Int32} {ll : Nat} {x : Int32} (h : ¬ ll < 19) : wrC (le, ll) x = (le, ll) := if_neg h
def dg9 (c : Nat) : Int32 := ((nI (48 + c)).toUInt32 % 65536).toInt32
theorem dg_nar {c : Nat} (h : c < 10) : vp_nar .char (dg9 c) = dg9 c := by
  have : ∀ c : Nat, c < 10 → vp_nar .char (dg9 c) = dg9 c := by decide +kernel
  exact this c h
def dcC0 (n : Nat) (t a li : Nat → Int32) (j : Nat) : (Nat → Int32) × Nat := wrC (wrC (li, 0) (dg9 j)) (ssS n t a j)
def dcC (n : Nat) (t a li : Nat → Int32) (j m : Nat) : (Nat → Int32) × Nat := up (fun c s => if tb (t j) c = true then wrC s (dg9 c) else s) (dcC0 n t a li j) m
theorem dcC_s (n : Nat) (t a li : Nat → Int32) (j m : Nat) : dcC n t a li j (m + 1) = if tb (t j) m = true then wrC (dcC n t a li j m) (dg9 m) else dcC n t a li j m := rfl
theorem dcC_le (n : Nat) (t a li : Nat → Int32) (j m : Nat) : (dcC n t a li j m).2 ≤ 19 := by
  induction m with
  | zero => exact wrC_le (s := wrC (li, 0) (dg9 j)) (wrC_le (s := (li, 0)) (show (0 : Nat) ≤ 19 by omega) _) _
  | succ m ih =>
    rw [dcC_s]
    split
    · exact wrC_le ih _
    · exact ih
def drB (l : Nat) (s : (Nat → Int32) × Nat) : (Nat → Int32) × Nat := if l = 0 then s else wrC s 32
def drJ (rk : Nat → Int32) (l : Nat) (s : (Nat → Int32) × Nat) (m : Nat) : (Nat → Int32) × Nat := up (fun c s => wrC s (rk (l * 3 + c))) s m
theorem drJ_s (rk : Nat → Int32) (l : Nat) (s : (Nat → Int32) × Nat) (m : Nat) : drJ rk l s (m + 1) = wrC (drJ rk l s m) (rk (l * 3 + m)) := rfl
def drP (kd rk li : Nat → Int32) (m : Nat) : (Nat → Int32) × Nat := up (fun l s => drJ rk l (wrC (drB l s) (kd l)) 3) (li, 0) m
theorem drP_s (kd rk li : Nat → Int32) (m : Nat) : drP kd rk li (m + 1) = drJ rk m (wrC (drB m (drP kd rk li m)) (kd m)) 3 := rfl
theorem drB_le {s : (Nat → Int32) × Nat} (h : s.2 ≤ 19) (l : Nat) : (drB l s).2 ≤ 19 := by
  unfold drB
  split
  · exact h
  · exact wrC_le h _
theorem drJ_le {s : (Nat → Int32) × Nat} (h : s.2 ≤ 19) (rk : Nat → Int32) (l m : Nat) : (drJ rk l s m).2 ≤ 19 := by
  induction m with
  | zero => exact h
  | succ m ih => exact wrC_le ih _
theorem drP_le (kd rk li : Nat → Int32) (m : Nat) : (drP kd rk li m).2 ≤ 19 := by
  induction m with
  | zero => show (0 : Nat) ≤ 19; omega
  | succ m ih => exact drJ_le (wrC_le (drB_le ih _) _) _ _ _
/-- the mean weight, the class's way -/
def mnS (n : Nat) (w : Nat → Int32) : UInt64 := FP.ddiv (FP.i2d (adS n w (nI (pw n - 1)))) (FP.i2d (nI n))
theorem okD_ms {n : Nat} {w : Nat → Int32} (h : wtOk n w) (h0 : 1 ≤ n) (hn : n ≤ 10) : okD (mnS n w) := by
  obtain ⟨j, hj, e⟩ := adS_nat h (nI (pw n - 1))
  unfold mnS
  rw [e]
  exact okD_div (okD_i2d (by omega)) (psG_i2d h0 hn)
/-- shifts of a trial, and the first one below a level -/
def sbQ (n : Nat) (a ly kd : Nat → Int32) (lim : Int32) (s : CS) (lev : Int32) (i : Nat) : Bool := decide (FP.fcmp (smF (itS n a ly kd lim s i).1 n) (FP.i2f lev) = some .lt)
def sbS (n : Nat) (a ly kd : Nat → Int32) (lim : Int32) (s : CS) (lev : Int32) : Nat := fsN (sbQ n a ly kd lim s lev) 31
theorem sbS_at {n : Nat} {a ly kd : Nat → Int32} {lim : Int32} {s : CS} {lev : Int32} {i : Nat} (h : ∀ c, c < i → sbQ n a ly kd lim s lev c = false) (hi : sbQ n a ly kd lim s lev i = true) (q : i < 31) : sbS n a ly kd lim s lev = i := fsN_some h hi q
theorem sbS_no {n : Nat} {a ly kd : Nat → Int32} {lim : Int32} {s : CS} {lev : Int32} (h : ∀ c, c < 31 → sbQ n a ly kd lim s lev c = false) : sbS n a ly kd lim s lev = 31 := fsN_none h
/-- the first claim of rank x -/
def rkF (n : Nat) (f : Nat → UInt32) (w : Nat → Int32) (x : Int32) : Nat := fsN (fun c => decide (nI (cntA f w c n) = x)) n
theorem rkF_at {n : Nat} {f : Nat → UInt32} {w : Nat → Int32} {x : Int32} {i : Nat} (h : ∀ c, c < i → decide (nI (cntA f w c n) = x) = false) (hi : nI (cntA f w i n) = x) (q : i < n) : rkF n f w x = i := fsN_some h (decide_eq_true hi) q
theorem rkF_no {n : Nat} {f : Nat → UInt32} {w : Nat → Int32} {x : Int32} (h : ∀ c, c < n → decide (nI (cntA f w c n) = x) = false) : rkF n f w x = n := fsN_none h
/-- the past behind a change -/
def upP (g : Nat → Nat) (i x : Nat) : Nat → Nat := fun j => if j = i then x else g j
theorem refuse_ge {r : Int32} (h : ¬ r < 0) : (0 : Int32) ≤ r := Int32.not_lt.mp h
theorem acc_low {n : Nat} {t a : Nat → Int32} (hn : n ≤ 10) (r : Nat) : lowB (itA n t a r) := by
  induction r with
  | zero => intro j _; exact tb_0 j
  | succ r ih =>
    rw [itA_s]
    refine low_or ih (fun j hj => ?_)
    unfold dfS
    rw [tb_dfm (by omega), decide_eq_false (by omega)]
    rfl
section SROWS
variable {p : Program} {l : Launch} {e : Env} {R : Room} {s : State} {m : MethodId} {args : Array Value} {below : List Frame} {meth : Method} {c : Code} {H H0 : Heap} {locs : List Loc} {cells slots : Nat} {Q : State → Prop}
variable {cc : ByteArray} {pc : Nat} {ls : Array Slot} {rest : List Value} {D : va_G} {k : Nat → ClassId} {A : Nat → Prop} {ws : va_W}
theorem sr_st {a : Nat} (hexec : p.tables.exec = Jvm.exec) (hb : c.code = cc) (hK : va_K D vwCl (tyL k) s) (hP : va_P D vwCl ws H) (hD : va_D A ws) (hS : va_S A H0 H locs) (q0 t0 qk ci : Nat) {cA : ClassId} {r : vw_C} {n v : Nat} {vs : List Value} {g : Nat → Nat} (ha : ws[q0]? = some (a, .inl (cA, n, .inr (.inr (.inr (.inr (fun j => some (g j)))))))) (ht : (tyL k)[t0]? = some (cA, .object r.1)) (hv : ws[qk]? = some (v, .inr (ci, vs))) (hc : vwCl[ci]? = some r) (j : Nat) (hj : j < n) (hn : n < 2 ^ 31) (wf : va_W) (hf : ws.set q0 (a, .inl (cA, n, .inr (.inr (.inr (.inr (fun i => some (upP g j v i))))))) = wf) (hdg : decode cc pc = .ok (.aastore, 1))
    (kk : ∀ (H1 : Heap) (locs1 : List Loc), va_P D vwCl wf H1 → va_D A wf → va_S A H0 H1 locs1 → W p l e R s m args below meth c H1 locs1 cells slots Q (F0 m (pc + 1) ls rest)) : W p l e R s m args below meth c H locs cells slots Q (F0 m pc ls (.ref v :: .int (nI j) :: .ref a :: rest)) := by
  refine va_astq hexec hb hK hP hD hS q0 t0 qk ci ha ht hv hc (vp_in_nI hj hn) hdg ?_
  rw [nI_clamp (Nat.lt_trans hj hn)]
  have e9 : va_up (fun j => some (g j)) j (some v) = fun i => some (upP g j v i) := by
    funext i
    unfold va_up upP
    split <;> rfl
  rw [e9, hf]
  exact kk
end SROWS

abbrev bRO (k : Nat → ClassId) (o : Nat) (now : Nat) (bf : Nat) (pa : Nat) (pn : Nat) (pk : Nat) (sv : Nat) (iz : Bool) (tr : Nat) (tx : Nat) (er : Int32) (fl : Int32) (li : Nat) (ll : Nat) (ac : Nat) (ci : Nat) (ch : Nat) : va_W := [(o, .inr (12, [.ref now, .ref bf, .ref pa, .int (nI pn), .int (nI pk), .ref sv, .int (bI iz), .ref tr, .ref tx, .int er, .int fl, .ref li, .int (nI ll), .ref ac, .ref ci, .ref ch]))]
abbrev bPA (k : Nat → ClassId) (ad : Nat) (g : Nat → Nat) : va_W := [(ad, .inl (k 6, 8, .inr (.inr (.inr (.inr (fun j => some (g j)))))))]
abbrev bC19 (k : Nat → ClassId) (ad : Nat) (f : Nat → Int32) : va_W := [(ad, .inl (k 1, 19, .inl f))]
abbrev bC60 (k : Nat → ClassId) (ad : Nat) (f : Nat → Int32) : va_W := [(ad, .inl (k 1, 60, .inl f))]
set_option maxHeartbeats 4000000 in
set_option maxRecDepth 100000 in
theorem m_X12_acceptedBits (l9 : Launch) (D : va_G) (k : Nat → ClassId) (o bf pa pn pk sv tr tx li ll ac ci ch : Nat) (iz : Bool) (er fl : Int32) (qs qc qr ql : Nat → Nat) (lim sh sc : Int32) (fr : Nat → UInt32) (n : Nat) (w ly t a : Nat → Int32) (fx : Nat → UInt32) (hn : n ≤ 10) : Met l9 yX12_acceptedBits wsX12_acceptedBits ({ frames := 4, cells := 0, slots := 0, locals := 91 }) (RPc D k [.ref o] (bRO k o (qs 0) bf pa pn pk sv iz tr tx er fl li ll ac ci ch ++ bSt k qs qc qr ql lim sh sc fr ++ bClaims k qc n w ly t a fx)) (EI (accS n t a)) 0 0 noA := by
  refine rMet (y := yX12_acceptedBits) (cc := cX12_acceptedBits) (maxL := 1) (ret := (some .int)) [.ref o] (by decide) rfl (Nat.le_of_ble_eq_true rfl) ?_
  intro p9 e9 s9 m9 bl9 me9 c9 ls hF hr hlocks hP hK hN hl
  have hl : lv_has ls 1 [(0, .ref o)] := hl
  obtain ⟨hx, hb, hml, hown, hts⟩ := id hF
  have k_fieldLink_10 : (Cond.fieldLink RX12 10 "OpinionReactor" "now" "LOpinionReactor$State;").before _ s9 = true := hts (.fieldLink RX12 10 "OpinionReactor" "now" "LOpinionReactor$State;") (by decide +kernel)
  have kc_RX12 : ∀ w ∈ u_ws RX12 TX12 16, w ∈ wsX12_acceptedBits := by decide +kernel
  have k_fieldLink_85 : (Cond.fieldLink RX12 85 "OpinionReactor$State" "claims" "LOpinionReactor$Claims;").before _ s9 = true := hts (.fieldLink RX12 85 "OpinionReactor$State" "claims" "LOpinionReactor$Claims;") (by decide +kernel)
  have kc_RX11 : ∀ w ∈ u_ws RX11 TX11 7, w ∈ wsX12_acceptedBits := by decide +kernel
  refine lv_aload_n hx hb dX12_acceptedBits_0 rfl (lv_at hl 0 rfl) ?_
  refine va_get (D := D) (ci := 12) (v := .ref (qs 0)) (C := RX12) (T := TX12) (N := 16) hx hb hts kc_RX12 hown hK hP 0 rfl rfl 0 (by decide) k_fieldLink_10 (fun _ h9 => h9) rfl dX12_acceptedBits_1 ?_
  refine va_get (D := D) (ci := 11) (v := .ref (qc 0)) (C := RX11) (T := TX11) (N := 7) hx hb hts kc_RX11 hown hK hP 1 rfl rfl 0 (by decide) k_fieldLink_85 (fun _ h9 => h9) rfl dX12_acceptedBits_4 ?_
  refine vp_callSi (W.runS (As := [.ref (qc 0)]) (rest := []) hF (m_X1_byRounds l9 D k qc n w ly t a fx hn) (va_cwS 1 hts gX12_acceptedBits_X1_byRounds rfl rfl rfl (by decide +kernel) ⟨Nat.le_of_ble_eq_true rfl, Nat.le_of_ble_eq_true rfl⟩) (rPreS hK hN hP [3, 4, 5, 6, 7, 8] rfl) rfl rfl hl.1 rfl (lv_room (Nat.le_of_ble_eq_true rfl)) dX12_acceptedBits_7 ⟨Nat.zero_le _, Nat.zero_le _⟩) (fun r_1 hr_1 => ?_)
  subst hr_1
  exact W.iret (v := accS n t a) hx hb hr (fun t9 ht hW => ⟨_, rfl, (by rfl), ht⟩) (fun _ h => by cases h) dX12_acceptedBits_10 hlocks

set_option maxHeartbeats 4000000 in
set_option maxRecDepth 100000 in
theorem m_X12_claimCount (l9 : Launch) (D : va_G) (k : Nat → ClassId) (o bf pa pn pk sv tr tx li ll ac ci ch : Nat) (iz : Bool) (er fl : Int32) (qs qc qr ql : Nat → Nat) (lim sh sc : Int32) (fr : Nat → UInt32) (n : Nat) (w ly t a : Nat → Int32) (fx : Nat → UInt32) : Met l9 yX12_claimCount wsX12_claimCount ({ frames := 0, cells := 0, slots := 0, locals := 0 }) (RPc D k [.ref o] (bRO k o (qs 0) bf pa pn pk sv iz tr tx er fl li ll ac ci ch ++ bSt k qs qc qr ql lim sh sc fr ++ bClaims k qc n w ly t a fx)) (EI (nI n)) 0 0 noA := by
  refine rMet (y := yX12_claimCount) (cc := cX12_claimCount) (maxL := 1) (ret := (some .int)) [.ref o] (by decide) rfl (Nat.le_of_ble_eq_true rfl) ?_
  intro p9 e9 s9 m9 bl9 me9 c9 ls hF hr hlocks hP hK hN hl
  have hl : lv_has ls 1 [(0, .ref o)] := hl
  obtain ⟨hx, hb, hml, hown, hts⟩ := id hF
  have k_fieldLink_10 : (Cond.fieldLink RX12 10 "OpinionReactor" "now" "LOpinionReactor$State;").before _ s9 = true := hts (.fieldLink RX12 10 "OpinionReactor" "now" "LOpinionReactor$State;") (by decide +kernel)
  have kc_RX12 : ∀ w ∈ u_ws RX12 TX12 16, w ∈ wsX12_claimCount := by decide +kernel
  have k_fieldLink_85 : (Cond.fieldLink RX12 85 "OpinionReactor$State" "claims" "LOpinionReactor$Claims;").before _ s9 = true := hts (.fieldLink RX12 85 "OpinionReactor$State" "claims" "LOpinionReactor$Claims;") (by decide +kernel)
  have kc_RX11 : ∀ w ∈ u_ws RX11 TX11 7, w ∈ wsX12_claimCount := by decide +kernel
  have k_fieldLink_106 : (Cond.fieldLink RX12 106 "OpinionReactor$Claims" "count" "I").before _ s9 = true := hts (.fieldLink RX12 106 "OpinionReactor$Claims" "count" "I") (by decide +kernel)
  have kc_RX5 : ∀ w ∈ u_ws RX5 TX5 6, w ∈ wsX12_claimCount := by decide +kernel
  refine lv_aload_n hx hb dX12_claimCount_0 rfl (lv_at hl 0 rfl) ?_
  refine va_get (D := D) (ci := 12) (v := .ref (qs 0)) (C := RX12) (T := TX12) (N := 16) hx hb hts kc_RX12 hown hK hP 0 rfl rfl 0 (by decide) k_fieldLink_10 (fun _ h9 => h9) rfl dX12_claimCount_1 ?_
  refine va_get (D := D) (ci := 11) (v := .ref (qc 0)) (C := RX11) (T := TX11) (N := 7) hx hb hts kc_RX11 hown hK hP 1 rfl rfl 0 (by decide) k_fieldLink_85 (fun _ h9 => h9) rfl dX12_claimCount_4 ?_
  refine va_get (D := D) (ci := 7) (v := .int (nI n)) (C := RX5) (T := TX5) (N := 6) hx hb hts kc_RX5 hown hK hP 3 rfl rfl 0 (by decide) k_fieldLink_106 (fun _ h9 => h9) rfl dX12_claimCount_7 ?_
  exact W.iret (v := nI n) hx hb hr (fun t9 ht hW => ⟨_, rfl, (by rfl), ht⟩) (fun _ h => by cases h) dX12_claimCount_10 hlocks

set_option maxHeartbeats 4000000 in
set_option maxRecDepth 100000 in
theorem m_X12_rejectedBits (l9 : Launch) (D : va_G) (k : Nat → ClassId) (o bf pa pn pk sv tr tx li ll ac ci ch : Nat) (iz : Bool) (er fl : Int32) (qs qc qr ql : Nat → Nat) (lim sh sc : Int32) (fr : Nat → UInt32) (n : Nat) (w ly t a : Nat → Int32) (fx : Nat → UInt32) (hn : n ≤ 10) : Met l9 yX12_rejectedBits wsX12_rejectedBits ({ frames := 5, cells := 0, slots := 0, locals := 111 }) (RPc D k [.ref o] (bRO k o (qs 0) bf pa pn pk sv iz tr tx er fl li ll ac ci ch ++ bSt k qs qc qr ql lim sh sc fr ++ bClaims k qc n w ly t a fx)) (EI (orS n t (accS n t a))) 0 0 noA := by
  refine rMet (y := yX12_rejectedBits) (cc := cX12_rejectedBits) (maxL := 1) (ret := (some .int)) [.ref o] (by decide) rfl (Nat.le_of_ble_eq_true rfl) ?_
  intro p9 e9 s9 m9 bl9 me9 c9 ls hF hr hlocks hP hK hN hl
  have hl : lv_has ls 1 [(0, .ref o)] := hl
  obtain ⟨hx, hb, hml, hown, hts⟩ := id hF
  have k_fieldLink_10 : (Cond.fieldLink RX12 10 "OpinionReactor" "now" "LOpinionReactor$State;").before _ s9 = true := hts (.fieldLink RX12 10 "OpinionReactor" "now" "LOpinionReactor$State;") (by decide +kernel)
  have kc_RX12 : ∀ w ∈ u_ws RX12 TX12 16, w ∈ wsX12_rejectedBits := by decide +kernel
  have k_fieldLink_85 : (Cond.fieldLink RX12 85 "OpinionReactor$State" "claims" "LOpinionReactor$Claims;").before _ s9 = true := hts (.fieldLink RX12 85 "OpinionReactor$State" "claims" "LOpinionReactor$Claims;") (by decide +kernel)
  have kc_RX11 : ∀ w ∈ u_ws RX11 TX11 7, w ∈ wsX12_rejectedBits := by decide +kernel
  refine lv_aload_n hx hb dX12_rejectedBits_0 rfl (lv_at hl 0 rfl) ?_
  refine va_get (D := D) (ci := 12) (v := .ref (qs 0)) (C := RX12) (T := TX12) (N := 16) hx hb hts kc_RX12 hown hK hP 0 rfl rfl 0 (by decide) k_fieldLink_10 (fun _ h9 => h9) rfl dX12_rejectedBits_1 ?_
  refine va_get (D := D) (ci := 11) (v := .ref (qc 0)) (C := RX11) (T := TX11) (N := 7) hx hb hts kc_RX11 hown hK hP 1 rfl rfl 0 (by decide) k_fieldLink_85 (fun _ h9 => h9) rfl dX12_rejectedBits_4 ?_
  refine lv_aload_n hx hb dX12_rejectedBits_7 rfl (lv_at hl 0 rfl) ?_
  refine vp_callSi (W.runV (As := []) (rest := [.ref (qc 0)]) hF (m_X12_acceptedBits l9 D k o bf pa pn pk sv tr tx li ll ac ci ch iz er fl qs qc qr ql lim sh sc fr n w ly t a fx hn) (cwV 0 hts gX12_rejectedBits_X12_acceptedBits rfl rfl rfl (by decide +kernel) ⟨Nat.le_of_ble_eq_true rfl, Nat.le_of_ble_eq_true rfl⟩) (rPreV hK hN hP [0, 1, 2, 3, 4, 5, 6, 7, 8] rfl 0 12 rfl rfl) rfl rfl hl.1 rfl (lv_room (Nat.le_of_ble_eq_true rfl)) dX12_rejectedBits_8 ⟨Nat.zero_le _, Nat.zero_le _⟩) (fun r_1 hr_1 => ?_)
  subst hr_1
  refine vp_callSi (W.runV (As := [.int (accS n t a)]) (rest := []) hF (m_X5_targetsOf l9 D k qc n w ly t a fx (accS n t a) hn) (cwV 1 hts gX12_rejectedBits_X5_targetsOf rfl rfl rfl (by decide +kernel) ⟨Nat.le_of_ble_eq_true rfl, Nat.le_of_ble_eq_true rfl⟩) (rPreV hK hN hP [3, 4, 5, 6, 7, 8] rfl 3 7 rfl rfl) rfl rfl hl.1 rfl (lv_room (Nat.le_of_ble_eq_true rfl)) dX12_rejectedBits_11 ⟨Nat.zero_le _, Nat.zero_le _⟩) (fun r_2 hr_2 => ?_)
  subst hr_2
  exact W.iret (v := orS n t (accS n t a)) hx hb hr (fun t9 ht hW => ⟨_, rfl, (by rfl), ht⟩) (fun _ h => by cases h) dX12_rejectedBits_14 hlocks

set_option maxHeartbeats 4000000 in
set_option maxRecDepth 100000 in
theorem m_X12_undecidedCount (l9 : Launch) (D : va_G) (k : Nat → ClassId) (o bf pa pn pk sv tr tx li ll ac ci ch : Nat) (iz : Bool) (er fl : Int32) (qs qc qr ql : Nat → Nat) (lim sh sc : Int32) (fr : Nat → UInt32) (n : Nat) (w ly t a : Nat → Int32) (fx : Nat → UInt32) (hn : n ≤ 10) : Met l9 yX12_undecidedCount wsX12_undecidedCount ({ frames := 6, cells := 0, slots := 0, locals := 131 }) (RPc D k [.ref o] (bRO k o (qs 0) bf pa pn pk sv iz tr tx er fl li ll ac ci ch ++ bSt k qs qc qr ql lim sh sc fr ++ bClaims k qc n w ly t a fx)) (EI (nI (cn 10 (nI (pw n - 1) &&& ((accS n t a ||| orS n t (accS n t a)) ^^^ (-1)))))) 0 0 noA := by
  refine rMet (y := yX12_undecidedCount) (cc := cX12_undecidedCount) (maxL := 1) (ret := (some .int)) [.ref o] (by decide) rfl (Nat.le_of_ble_eq_true rfl) ?_
  intro p9 e9 s9 m9 bl9 me9 c9 ls hF hr hlocks hP hK hN hl
  have hl : lv_has ls 1 [(0, .ref o)] := hl
  obtain ⟨hx, hb, hml, hown, hts⟩ := id hF
  have k_fieldLink_10 : (Cond.fieldLink RX12 10 "OpinionReactor" "now" "LOpinionReactor$State;").before _ s9 = true := hts (.fieldLink RX12 10 "OpinionReactor" "now" "LOpinionReactor$State;") (by decide +kernel)
  have kc_RX12 : ∀ w ∈ u_ws RX12 TX12 16, w ∈ wsX12_undecidedCount := by decide +kernel
  have k_fieldLink_85 : (Cond.fieldLink RX12 85 "OpinionReactor$State" "claims" "LOpinionReactor$Claims;").before _ s9 = true := hts (.fieldLink RX12 85 "OpinionReactor$State" "claims" "LOpinionReactor$Claims;") (by decide +kernel)
  have kc_RX11 : ∀ w ∈ u_ws RX11 TX11 7, w ∈ wsX12_undecidedCount := by decide +kernel
  refine lv_aload_n hx hb dX12_undecidedCount_0 rfl (lv_at hl 0 rfl) ?_
  refine va_get (D := D) (ci := 12) (v := .ref (qs 0)) (C := RX12) (T := TX12) (N := 16) hx hb hts kc_RX12 hown hK hP 0 rfl rfl 0 (by decide) k_fieldLink_10 (fun _ h9 => h9) rfl dX12_undecidedCount_1 ?_
  refine va_get (D := D) (ci := 11) (v := .ref (qc 0)) (C := RX11) (T := TX11) (N := 7) hx hb hts kc_RX11 hown hK hP 1 rfl rfl 0 (by decide) k_fieldLink_85 (fun _ h9 => h9) rfl dX12_undecidedCount_4 ?_
  refine vp_callSi (W.runV (As := []) (rest := []) hF (m_X5_all l9 D k qc n w ly t a fx hn) (cwV 0 hts gX12_undecidedCount_X5_all rfl rfl rfl (by decide +kernel) ⟨Nat.le_of_ble_eq_true rfl, Nat.le_of_ble_eq_true rfl⟩) (rPreV hK hN hP [3, 4, 5, 6, 7, 8] rfl 3 7 rfl rfl) rfl rfl hl.1 rfl (lv_room (Nat.le_of_ble_eq_true rfl)) dX12_undecidedCount_7 ⟨Nat.zero_le _, Nat.zero_le _⟩) (fun r_1 hr_1 => ?_)
  subst hr_1
  refine lv_aload_n hx hb dX12_undecidedCount_10 rfl (lv_at hl 0 rfl) ?_
  refine vp_callSi (W.runV (As := []) (rest := [.int (nI (pw n - 1))]) hF (m_X12_acceptedBits l9 D k o bf pa pn pk sv tr tx li ll ac ci ch iz er fl qs qc qr ql lim sh sc fr n w ly t a fx hn) (cwV 0 hts gX12_undecidedCount_X12_acceptedBits rfl rfl rfl (by decide +kernel) ⟨Nat.le_of_ble_eq_true rfl, Nat.le_of_ble_eq_true rfl⟩) (rPreV hK hN hP [0, 1, 2, 3, 4, 5, 6, 7, 8] rfl 0 12 rfl rfl) rfl rfl hl.1 rfl (lv_room (Nat.le_of_ble_eq_true rfl)) dX12_undecidedCount_11 ⟨Nat.zero_le _, Nat.zero_le _⟩) (fun r_2 hr_2 => ?_)
  subst hr_2
  refine lv_aload_n hx hb dX12_undecidedCount_14 rfl (lv_at hl 0 rfl) ?_
  refine vp_callSi (W.runV (As := []) (rest := [.int (accS n t a), .int (nI (pw n - 1))]) hF (m_X12_rejectedBits l9 D k o bf pa pn pk sv tr tx li ll ac ci ch iz er fl qs qc qr ql lim sh sc fr n w ly t a fx hn) (cwV 0 hts gX12_undecidedCount_X12_rejectedBits rfl rfl rfl (by decide +kernel) ⟨Nat.le_of_ble_eq_true rfl, Nat.le_of_ble_eq_true rfl⟩) (rPreV hK hN hP [0, 1, 2, 3, 4, 5, 6, 7, 8] rfl 0 12 rfl rfl) rfl rfl hl.1 rfl (lv_room (Nat.le_of_ble_eq_true rfl)) dX12_undecidedCount_15 ⟨Nat.zero_le _, Nat.zero_le _⟩) (fun r_3 hr_3 => ?_)
  subst hr_3
  refine lv_ior hx hb dX12_undecidedCount_18 ?_
  refine lv_iconst (v := (-1)) hx hb dX12_undecidedCount_19 (by decide) ?_
  refine lv_ixor hx hb dX12_undecidedCount_20 ?_
  refine lv_iand hx hb dX12_undecidedCount_21 ?_
  refine vp_callSi (W.runS (As := [.int ((nI (pw n - 1)) &&& (((accS n t a) ||| (orS n t (accS n t a))) ^^^ (-1)))]) (rest := []) hF (m_J6_bitCount_0f7a4 l9 D k ((nI (pw n - 1)) &&& (((accS n t a) ||| (orS n t (accS n t a))) ^^^ (-1))) (low_and (low_all hn) _)) (va_cwS 1 hts gX12_undecidedCount_J6_bitCount_0f7a4 rfl rfl rfl (by decide +kernel) ⟨Nat.le_of_ble_eq_true rfl, Nat.le_of_ble_eq_true rfl⟩) (rPreS hK hN hP [] rfl) rfl rfl hl.1 rfl (lv_room (Nat.le_of_ble_eq_true rfl)) dX12_undecidedCount_22 ⟨Nat.zero_le _, Nat.zero_le _⟩) (fun r_4 hr_4 => ?_)
  subst hr_4
  exact W.iret (v := nI (cn 10 ((nI (pw n - 1)) &&& (((accS n t a) ||| (orS n t (accS n t a))) ^^^ (-1))))) hx hb hr (fun t9 ht hW => ⟨_, rfl, (by rfl), ht⟩) (fun _ h => by cases h) dX12_undecidedCount_25 hlocks

set_option maxHeartbeats 4000000 in
set_option maxRecDepth 100000 in
theorem m_X12_positions (l9 : Launch) (D : va_G) (k : Nat → ClassId) (o bf pa pn pk sv tr tx li ll ac ci ch : Nat) (iz : Bool) (er fl : Int32) (qs qc qr ql : Nat → Nat) (lim sh sc : Int32) (fr : Nat → UInt32) (n : Nat) (w ly t a : Nat → Int32) (fx : Nat → UInt32) (hn : n ≤ 10) : Met l9 yX12_positions wsX12_positions ({ frames := 4, cells := 0, slots := 0, locals := 88 }) (RPc D k [.ref o] (bRO k o (qs 0) bf pa pn pk sv iz tr tx er fl li ll ac ci ch ++ bSt k qs qc qr ql lim sh sc fr ++ bClaims k qc n w ly t a fx)) (EI (nI (cntP n t a (pw n)))) 0 0 noA := by
  refine rMet (y := yX12_positions) (cc := cX12_positions) (maxL := 1) (ret := (some .int)) [.ref o] (by decide) rfl (Nat.le_of_ble_eq_true rfl) ?_
  intro p9 e9 s9 m9 bl9 me9 c9 ls hF hr hlocks hP hK hN hl
  have hl : lv_has ls 1 [(0, .ref o)] := hl
  obtain ⟨hx, hb, hml, hown, hts⟩ := id hF
  have k_fieldLink_10 : (Cond.fieldLink RX12 10 "OpinionReactor" "now" "LOpinionReactor$State;").before _ s9 = true := hts (.fieldLink RX12 10 "OpinionReactor" "now" "LOpinionReactor$State;") (by decide +kernel)
  have kc_RX12 : ∀ w ∈ u_ws RX12 TX12 16, w ∈ wsX12_positions := by decide +kernel
  have k_fieldLink_85 : (Cond.fieldLink RX12 85 "OpinionReactor$State" "claims" "LOpinionReactor$Claims;").before _ s9 = true := hts (.fieldLink RX12 85 "OpinionReactor$State" "claims" "LOpinionReactor$Claims;") (by decide +kernel)
  have kc_RX11 : ∀ w ∈ u_ws RX11 TX11 7, w ∈ wsX12_positions := by decide +kernel
  refine lv_aload_n hx hb dX12_positions_0 rfl (lv_at hl 0 rfl) ?_
  refine va_get (D := D) (ci := 12) (v := .ref (qs 0)) (C := RX12) (T := TX12) (N := 16) hx hb hts kc_RX12 hown hK hP 0 rfl rfl 0 (by decide) k_fieldLink_10 (fun _ h9 => h9) rfl dX12_positions_1 ?_
  refine va_get (D := D) (ci := 11) (v := .ref (qc 0)) (C := RX11) (T := TX11) (N := 7) hx hb hts kc_RX11 hown hK hP 1 rfl rfl 0 (by decide) k_fieldLink_85 (fun _ h9 => h9) rfl dX12_positions_4 ?_
  refine vp_callSi (W.runS (As := [.ref (qc 0)]) (rest := []) hF (m_X9_byTrying l9 D k qc n w ly t a fx hn) (va_cwS 1 hts gX12_positions_X9_byTrying rfl rfl rfl (by decide +kernel) ⟨Nat.le_of_ble_eq_true rfl, Nat.le_of_ble_eq_true rfl⟩) (rPreS hK hN hP [3, 4, 5, 6, 7, 8] rfl) rfl rfl hl.1 rfl (lv_room (Nat.le_of_ble_eq_true rfl)) dX12_positions_7 ⟨Nat.zero_le _, Nat.zero_le _⟩) (fun r_1 hr_1 => ?_)
  subst hr_1
  exact W.iret (v := nI (cntP n t a (pw n))) hx hb hr (fun t9 ht hW => ⟨_, rfl, (by rfl), ht⟩) (fun _ h => by cases h) dX12_positions_10 hlocks

set_option maxHeartbeats 4000000 in
set_option maxRecDepth 100000 in
theorem m_X12_positionsByDeciding (l9 : Launch) (D : va_G) (k : Nat → ClassId) (o bf pa pn pk sv tr tx li ll ac ci ch : Nat) (iz : Bool) (er fl : Int32) (qs qc qr ql : Nat → Nat) (lim sh sc : Int32) (fr : Nat → UInt32) (n : Nat) (w ly t a : Nat → Int32) (fx : Nat → UInt32) (hn : n ≤ 10) : Met l9 yX12_positionsByDeciding wsX12_positionsByDeciding ({ frames := 14, cells := 0, slots := 0, locals := 328 }) (RPc D k [.ref o] (bRO k o (qs 0) bf pa pn pk sv iz tr tx er fl li ll ac ci ch ++ bSt k qs qc qr ql lim sh sc fr ++ bClaims k qc n w ly t a fx)) (EI (nI (dcS n t a 10 0 0))) 0 0 noA := by
  refine rMet (y := yX12_positionsByDeciding) (cc := cX12_positionsByDeciding) (maxL := 1) (ret := (some .int)) [.ref o] (by decide) rfl (Nat.le_of_ble_eq_true rfl) ?_
  intro p9 e9 s9 m9 bl9 me9 c9 ls hF hr hlocks hP hK hN hl
  have hl : lv_has ls 1 [(0, .ref o)] := hl
  obtain ⟨hx, hb, hml, hown, hts⟩ := id hF
  have k_fieldLink_10 : (Cond.fieldLink RX12 10 "OpinionReactor" "now" "LOpinionReactor$State;").before _ s9 = true := hts (.fieldLink RX12 10 "OpinionReactor" "now" "LOpinionReactor$State;") (by decide +kernel)
  have kc_RX12 : ∀ w ∈ u_ws RX12 TX12 16, w ∈ wsX12_positionsByDeciding := by decide +kernel
  have k_fieldLink_85 : (Cond.fieldLink RX12 85 "OpinionReactor$State" "claims" "LOpinionReactor$Claims;").before _ s9 = true := hts (.fieldLink RX12 85 "OpinionReactor$State" "claims" "LOpinionReactor$Claims;") (by decide +kernel)
  have kc_RX11 : ∀ w ∈ u_ws RX11 TX11 7, w ∈ wsX12_positionsByDeciding := by decide +kernel
  refine lv_aload_n hx hb dX12_positionsByDeciding_0 rfl (lv_at hl 0 rfl) ?_
  refine va_get (D := D) (ci := 12) (v := .ref (qs 0)) (C := RX12) (T := TX12) (N := 16) hx hb hts kc_RX12 hown hK hP 0 rfl rfl 0 (by decide) k_fieldLink_10 (fun _ h9 => h9) rfl dX12_positionsByDeciding_1 ?_
  refine va_get (D := D) (ci := 11) (v := .ref (qc 0)) (C := RX11) (T := TX11) (N := 7) hx hb hts kc_RX11 hown hK hP 1 rfl rfl 0 (by decide) k_fieldLink_85 (fun _ h9 => h9) rfl dX12_positionsByDeciding_4 ?_
  refine vp_callSi (W.runS (As := [.ref (qc 0)]) (rest := []) hF (m_X9_byDeciding l9 D k qc n w ly t a fx hn) (va_cwS 1 hts gX12_positionsByDeciding_X9_byDeciding rfl rfl rfl (by decide +kernel) ⟨Nat.le_of_ble_eq_true rfl, Nat.le_of_ble_eq_true rfl⟩) (rPreS hK hN hP [3, 4, 5, 6, 7, 8] rfl) rfl rfl hl.1 rfl (lv_room (Nat.le_of_ble_eq_true rfl)) dX12_positionsByDeciding_7 ⟨Nat.zero_le _, Nat.zero_le _⟩) (fun r_1 hr_1 => ?_)
  subst hr_1
  exact W.iret (v := nI (dcS n t a 10 0 0)) hx hb hr (fun t9 ht hW => ⟨_, rfl, (by rfl), ht⟩) (fun _ h => by cases h) dX12_positionsByDeciding_10 hlocks

set_option maxHeartbeats 4000000 in
set_option maxRecDepth 100000 in
theorem m_X12_heaviestBits (l9 : Launch) (D : va_G) (k : Nat → ClassId) (o bf pa pn pk sv tr tx li ll ac ci ch : Nat) (iz : Bool) (er fl : Int32) (qs qc qr ql : Nat → Nat) (lim sh sc : Int32) (fr : Nat → UInt32) (n : Nat) (w ly t a : Nat → Int32) (fx : Nat → UInt32) (hn : n ≤ 10) : Met l9 yX12_heaviestBits wsX12_heaviestBits ({ frames := 4, cells := 0, slots := 0, locals := 92 }) (RPc D k [.ref o] (bRO k o (qs 0) bf pa pn pk sv iz tr tx er fl li ll ac ci ch ++ bSt k qs qc qr ql lim sh sc fr ++ bClaims k qc n w ly t a fx)) (EI (hvS n w t a (pw n - 1))) 0 0 noA := by
  refine rMet (y := yX12_heaviestBits) (cc := cX12_heaviestBits) (maxL := 1) (ret := (some .int)) [.ref o] (by decide) rfl (Nat.le_of_ble_eq_true rfl) ?_
  intro p9 e9 s9 m9 bl9 me9 c9 ls hF hr hlocks hP hK hN hl
  have hl : lv_has ls 1 [(0, .ref o)] := hl
  obtain ⟨hx, hb, hml, hown, hts⟩ := id hF
  have k_fieldLink_10 : (Cond.fieldLink RX12 10 "OpinionReactor" "now" "LOpinionReactor$State;").before _ s9 = true := hts (.fieldLink RX12 10 "OpinionReactor" "now" "LOpinionReactor$State;") (by decide +kernel)
  have kc_RX12 : ∀ w ∈ u_ws RX12 TX12 16, w ∈ wsX12_heaviestBits := by decide +kernel
  have k_fieldLink_85 : (Cond.fieldLink RX12 85 "OpinionReactor$State" "claims" "LOpinionReactor$Claims;").before _ s9 = true := hts (.fieldLink RX12 85 "OpinionReactor$State" "claims" "LOpinionReactor$Claims;") (by decide +kernel)
  have kc_RX11 : ∀ w ∈ u_ws RX11 TX11 7, w ∈ wsX12_heaviestBits := by decide +kernel
  refine lv_aload_n hx hb dX12_heaviestBits_0 rfl (lv_at hl 0 rfl) ?_
  refine va_get (D := D) (ci := 12) (v := .ref (qs 0)) (C := RX12) (T := TX12) (N := 16) hx hb hts kc_RX12 hown hK hP 0 rfl rfl 0 (by decide) k_fieldLink_10 (fun _ h9 => h9) rfl dX12_heaviestBits_1 ?_
  refine va_get (D := D) (ci := 11) (v := .ref (qc 0)) (C := RX11) (T := TX11) (N := 7) hx hb hts kc_RX11 hown hK hP 1 rfl rfl 0 (by decide) k_fieldLink_85 (fun _ h9 => h9) rfl dX12_heaviestBits_4 ?_
  refine vp_callSi (W.runS (As := [.ref (qc 0)]) (rest := []) hF (m_X9_heaviest l9 D k qc n w ly t a fx hn) (va_cwS 1 hts gX12_heaviestBits_X9_heaviest rfl rfl rfl (by decide +kernel) ⟨Nat.le_of_ble_eq_true rfl, Nat.le_of_ble_eq_true rfl⟩) (rPreS hK hN hP [3, 4, 5, 6, 7, 8] rfl) rfl rfl hl.1 rfl (lv_room (Nat.le_of_ble_eq_true rfl)) dX12_heaviestBits_7 ⟨Nat.zero_le _, Nat.zero_le _⟩) (fun r_1 hr_1 => ?_)
  subst hr_1
  exact W.iret (v := hvS n w t a (pw n - 1)) hx hb hr (fun t9 ht hW => ⟨_, rfl, (by rfl), ht⟩) (fun _ h => by cases h) dX12_heaviestBits_10 hlocks

set_option maxHeartbeats 4000000 in
set_option maxRecDepth 100000 in
theorem m_X12_heaviestWeight (l9 : Launch) (D : va_G) (k : Nat → ClassId) (o bf pa pn pk sv tr tx li ll ac ci ch : Nat) (iz : Bool) (er fl : Int32) (qs qc qr ql : Nat → Nat) (lim sh sc : Int32) (fr : Nat → UInt32) (n : Nat) (w ly t a : Nat → Int32) (fx : Nat → UInt32) (hn : n ≤ 10) : Met l9 yX12_heaviestWeight wsX12_heaviestWeight ({ frames := 5, cells := 0, slots := 0, locals := 112 }) (RPc D k [.ref o] (bRO k o (qs 0) bf pa pn pk sv iz tr tx er fl li ll ac ci ch ++ bSt k qs qc qr ql lim sh sc fr ++ bClaims k qc n w ly t a fx)) (EI (adS n w (hvS n w t a (pw n - 1)))) 0 0 noA := by
  refine rMet (y := yX12_heaviestWeight) (cc := cX12_heaviestWeight) (maxL := 1) (ret := (some .int)) [.ref o] (by decide) rfl (Nat.le_of_ble_eq_true rfl) ?_
  intro p9 e9 s9 m9 bl9 me9 c9 ls hF hr hlocks hP hK hN hl
  have hl : lv_has ls 1 [(0, .ref o)] := hl
  obtain ⟨hx, hb, hml, hown, hts⟩ := id hF
  have k_fieldLink_10 : (Cond.fieldLink RX12 10 "OpinionReactor" "now" "LOpinionReactor$State;").before _ s9 = true := hts (.fieldLink RX12 10 "OpinionReactor" "now" "LOpinionReactor$State;") (by decide +kernel)
  have kc_RX12 : ∀ w ∈ u_ws RX12 TX12 16, w ∈ wsX12_heaviestWeight := by decide +kernel
  have k_fieldLink_85 : (Cond.fieldLink RX12 85 "OpinionReactor$State" "claims" "LOpinionReactor$Claims;").before _ s9 = true := hts (.fieldLink RX12 85 "OpinionReactor$State" "claims" "LOpinionReactor$Claims;") (by decide +kernel)
  have kc_RX11 : ∀ w ∈ u_ws RX11 TX11 7, w ∈ wsX12_heaviestWeight := by decide +kernel
  refine lv_aload_n hx hb dX12_heaviestWeight_0 rfl (lv_at hl 0 rfl) ?_
  refine va_get (D := D) (ci := 12) (v := .ref (qs 0)) (C := RX12) (T := TX12) (N := 16) hx hb hts kc_RX12 hown hK hP 0 rfl rfl 0 (by decide) k_fieldLink_10 (fun _ h9 => h9) rfl dX12_heaviestWeight_1 ?_
  refine va_get (D := D) (ci := 11) (v := .ref (qc 0)) (C := RX11) (T := TX11) (N := 7) hx hb hts kc_RX11 hown hK hP 1 rfl rfl 0 (by decide) k_fieldLink_85 (fun _ h9 => h9) rfl dX12_heaviestWeight_4 ?_
  refine lv_aload_n hx hb dX12_heaviestWeight_7 rfl (lv_at hl 0 rfl) ?_
  refine vp_callSi (W.runV (As := []) (rest := [.ref (qc 0)]) hF (m_X12_heaviestBits l9 D k o bf pa pn pk sv tr tx li ll ac ci ch iz er fl qs qc qr ql lim sh sc fr n w ly t a fx hn) (cwV 0 hts gX12_heaviestWeight_X12_heaviestBits rfl rfl rfl (by decide +kernel) ⟨Nat.le_of_ble_eq_true rfl, Nat.le_of_ble_eq_true rfl⟩) (rPreV hK hN hP [0, 1, 2, 3, 4, 5, 6, 7, 8] rfl 0 12 rfl rfl) rfl rfl hl.1 rfl (lv_room (Nat.le_of_ble_eq_true rfl)) dX12_heaviestWeight_8 ⟨Nat.zero_le _, Nat.zero_le _⟩) (fun r_1 hr_1 => ?_)
  subst hr_1
  refine vp_callSi (W.runV (As := [.int (hvS n w t a (pw n - 1))]) (rest := []) hF (m_X5_weightOfSet l9 D k qc n w ly t a fx (hvS n w t a (pw n - 1)) hn) (cwV 1 hts gX12_heaviestWeight_X5_weightOfSet rfl rfl rfl (by decide +kernel) ⟨Nat.le_of_ble_eq_true rfl, Nat.le_of_ble_eq_true rfl⟩) (rPreV hK hN hP [3, 4, 5, 6, 7, 8] rfl 3 7 rfl rfl) rfl rfl hl.1 rfl (lv_room (Nat.le_of_ble_eq_true rfl)) dX12_heaviestWeight_11 ⟨Nat.zero_le _, Nat.zero_le _⟩) (fun r_2 hr_2 => ?_)
  subst hr_2
  exact W.iret (v := adS n w (hvS n w t a (pw n - 1))) hx hb hr (fun t9 ht hW => ⟨_, rfl, (by rfl), ht⟩) (fun _ h => by cases h) dX12_heaviestWeight_14 hlocks

set_option maxHeartbeats 4000000 in
set_option maxRecDepth 100000 in
theorem m_X12_circles (l9 : Launch) (D : va_G) (k : Nat → ClassId) (o bf pa pn pk sv tr tx li ll ac ci ch : Nat) (iz : Bool) (er fl : Int32) (qs qc qr ql : Nat → Nat) (lim sh sc : Int32) (fr : Nat → UInt32) (n : Nat) (w ly t a : Nat → Int32) (fx : Nat → UInt32) (hn : n ≤ 10) : Met l9 yX12_circles wsX12_circles ({ frames := 5, cells := 0, slots := 0, locals := 114 }) (RPc D k [.ref o] (bRO k o (qs 0) bf pa pn pk sv iz tr tx er fl li ll ac ci ch ++ bSt k qs qc qr ql lim sh sc fr ++ bClaims k qc n w ly t a fx)) (EI (nI ((cirS n t a n).1))) 0 0 noA := by
  refine rMet (y := yX12_circles) (cc := cX12_circles) (maxL := 1) (ret := (some .int)) [.ref o] (by decide) rfl (Nat.le_of_ble_eq_true rfl) ?_
  intro p9 e9 s9 m9 bl9 me9 c9 ls hF hr hlocks hP hK hN hl
  have hl : lv_has ls 1 [(0, .ref o)] := hl
  obtain ⟨hx, hb, hml, hown, hts⟩ := id hF
  have k_fieldLink_10 : (Cond.fieldLink RX12 10 "OpinionReactor" "now" "LOpinionReactor$State;").before _ s9 = true := hts (.fieldLink RX12 10 "OpinionReactor" "now" "LOpinionReactor$State;") (by decide +kernel)
  have kc_RX12 : ∀ w ∈ u_ws RX12 TX12 16, w ∈ wsX12_circles := by decide +kernel
  have k_fieldLink_85 : (Cond.fieldLink RX12 85 "OpinionReactor$State" "claims" "LOpinionReactor$Claims;").before _ s9 = true := hts (.fieldLink RX12 85 "OpinionReactor$State" "claims" "LOpinionReactor$Claims;") (by decide +kernel)
  have kc_RX11 : ∀ w ∈ u_ws RX11 TX11 7, w ∈ wsX12_circles := by decide +kernel
  refine lv_aload_n hx hb dX12_circles_0 rfl (lv_at hl 0 rfl) ?_
  refine va_get (D := D) (ci := 12) (v := .ref (qs 0)) (C := RX12) (T := TX12) (N := 16) hx hb hts kc_RX12 hown hK hP 0 rfl rfl 0 (by decide) k_fieldLink_10 (fun _ h9 => h9) rfl dX12_circles_1 ?_
  refine va_get (D := D) (ci := 11) (v := .ref (qc 0)) (C := RX11) (T := TX11) (N := 7) hx hb hts kc_RX11 hown hK hP 1 rfl rfl 0 (by decide) k_fieldLink_85 (fun _ h9 => h9) rfl dX12_circles_4 ?_
  refine vp_callSi (W.runS (As := [.ref (qc 0)]) (rest := []) hF (m_X4_bySearches l9 D k qc n w ly t a fx hn) (va_cwS 1 hts gX12_circles_X4_bySearches rfl rfl rfl (by decide +kernel) ⟨Nat.le_of_ble_eq_true rfl, Nat.le_of_ble_eq_true rfl⟩) (rPreS hK hN hP [3, 4, 5, 6, 7, 8] rfl) rfl rfl hl.1 rfl (lv_room (Nat.le_of_ble_eq_true rfl)) dX12_circles_7 ⟨Nat.zero_le _, Nat.zero_le _⟩) (fun r_1 hr_1 => ?_)
  subst hr_1
  exact W.iret (v := nI ((cirS n t a n).1)) hx hb hr (fun t9 ht hW => ⟨_, rfl, (by rfl), ht⟩) (fun _ h => by cases h) dX12_circles_10 hlocks

set_option maxHeartbeats 4000000 in
set_option maxRecDepth 100000 in
theorem m_X12_power (l9 : Launch) (D : va_G) (k : Nat → ClassId) (o bf pa pn pk sv tr tx li ll ac ci ch : Nat) (iz : Bool) (er fl : Int32) (qs qc qr ql : Nat → Nat) (lim sh sc : Int32) (fr : Nat → UInt32) (n : Nat) (w ly t a : Nat → Int32) (fx : Nat → UInt32) (hn : n ≤ 10) (hf : ∀ c, c < n → okF (fx c)) : Met l9 yX12_power wsX12_power ({ frames := 1, cells := 0, slots := 0, locals := 22 }) (RPc D k [.ref o] (bRO k o (qs 0) bf pa pn pk sv iz tr tx er fl li ll ac ci ch ++ bSt k qs qc qr ql lim sh sc fr ++ bClaims k qc n w ly t a fx)) (EF (smF fx n)) 0 0 noA := by
  refine rMet (y := yX12_power) (cc := cX12_power) (maxL := 1) (ret := (some .float)) [.ref o] (by decide) rfl (Nat.le_of_ble_eq_true rfl) ?_
  intro p9 e9 s9 m9 bl9 me9 c9 ls hF hr hlocks hP hK hN hl
  have hl : lv_has ls 1 [(0, .ref o)] := hl
  obtain ⟨hx, hb, hml, hown, hts⟩ := id hF
  have k_fieldLink_10 : (Cond.fieldLink RX12 10 "OpinionReactor" "now" "LOpinionReactor$State;").before _ s9 = true := hts (.fieldLink RX12 10 "OpinionReactor" "now" "LOpinionReactor$State;") (by decide +kernel)
  have kc_RX12 : ∀ w ∈ u_ws RX12 TX12 16, w ∈ wsX12_power := by decide +kernel
  have k_fieldLink_85 : (Cond.fieldLink RX12 85 "OpinionReactor$State" "claims" "LOpinionReactor$Claims;").before _ s9 = true := hts (.fieldLink RX12 85 "OpinionReactor$State" "claims" "LOpinionReactor$Claims;") (by decide +kernel)
  have kc_RX11 : ∀ w ∈ u_ws RX11 TX11 7, w ∈ wsX12_power := by decide +kernel
  refine lv_aload_n hx hb dX12_power_0 rfl (lv_at hl 0 rfl) ?_
  refine va_get (D := D) (ci := 12) (v := .ref (qs 0)) (C := RX12) (T := TX12) (N := 16) hx hb hts kc_RX12 hown hK hP 0 rfl rfl 0 (by decide) k_fieldLink_10 (fun _ h9 => h9) rfl dX12_power_1 ?_
  refine va_get (D := D) (ci := 11) (v := .ref (qc 0)) (C := RX11) (T := TX11) (N := 7) hx hb hts kc_RX11 hown hK hP 1 rfl rfl 0 (by decide) k_fieldLink_85 (fun _ h9 => h9) rfl dX12_power_4 ?_
  refine vp_callSf (W.runV (As := []) (rest := []) hF (m_X5_sumOfFluxes l9 D k qc n w ly t a fx hn hf) (cwV 0 hts gX12_power_X5_sumOfFluxes rfl rfl rfl (by decide +kernel) ⟨Nat.le_of_ble_eq_true rfl, Nat.le_of_ble_eq_true rfl⟩) (rPreV hK hN hP [3, 4, 5, 6, 7, 8] rfl 3 7 rfl rfl) rfl rfl hl.1 rfl (lv_room (Nat.le_of_ble_eq_true rfl)) dX12_power_7 ⟨Nat.zero_le _, Nat.zero_le _⟩) (fun r_1 hr_1 => ?_)
  subst hr_1
  exact W.fret (v := smF fx n) hx hb hr (fun t9 ht hW => ⟨_, rfl, (by rfl), ht⟩) (fun _ h => by cases h) dX12_power_10 hlocks


set_option maxHeartbeats 4000000 in
set_option maxRecDepth 100000 in
theorem m_X12_shiftCount (l9 : Launch) (D : va_G) (k : Nat → ClassId) (o bf pa pn pk sv tr tx li ll ac ci ch : Nat) (iz : Bool) (er fl : Int32) (qs qc qr ql : Nat → Nat) (lim sh sc : Int32) (fr : Nat → UInt32) (n : Nat) (w ly t a : Nat → Int32) (fx : Nat → UInt32) : Met l9 yX12_shiftCount wsX12_shiftCount ({ frames := 0, cells := 0, slots := 0, locals := 0 }) (RPc D k [.ref o] (bRO k o (qs 0) bf pa pn pk sv iz tr tx er fl li ll ac ci ch ++ bSt k qs qc qr ql lim sh sc fr ++ bClaims k qc n w ly t a fx)) (EI sh) 0 0 noA := by
  refine rMet (y := yX12_shiftCount) (cc := cX12_shiftCount) (maxL := 1) (ret := (some .int)) [.ref o] (by decide) rfl (Nat.le_of_ble_eq_true rfl) ?_
  intro p9 e9 s9 m9 bl9 me9 c9 ls hF hr hlocks hP hK hN hl
  have hl : lv_has ls 1 [(0, .ref o)] := hl
  obtain ⟨hx, hb, hml, hown, hts⟩ := id hF
  have k_fieldLink_10 : (Cond.fieldLink RX12 10 "OpinionReactor" "now" "LOpinionReactor$State;").before _ s9 = true := hts (.fieldLink RX12 10 "OpinionReactor" "now" "LOpinionReactor$State;") (by decide +kernel)
  have kc_RX12 : ∀ w ∈ u_ws RX12 TX12 16, w ∈ wsX12_shiftCount := by decide +kernel
  have k_fieldLink_280 : (Cond.fieldLink RX12 280 "OpinionReactor$State" "shifts" "I").before _ s9 = true := hts (.fieldLink RX12 280 "OpinionReactor$State" "shifts" "I") (by decide +kernel)
  have kc_RX11 : ∀ w ∈ u_ws RX11 TX11 7, w ∈ wsX12_shiftCount := by decide +kernel
  refine lv_aload_n hx hb dX12_shiftCount_0 rfl (lv_at hl 0 rfl) ?_
  refine va_get (D := D) (ci := 12) (v := .ref (qs 0)) (C := RX12) (T := TX12) (N := 16) hx hb hts kc_RX12 hown hK hP 0 rfl rfl 0 (by decide) k_fieldLink_10 (fun _ h9 => h9) rfl dX12_shiftCount_1 ?_
  refine va_get (D := D) (ci := 11) (v := .int sh) (C := RX11) (T := TX11) (N := 7) hx hb hts kc_RX11 hown hK hP 1 rfl rfl 4 (by decide) k_fieldLink_280 (fun _ h9 => h9) rfl dX12_shiftCount_4 ?_
  exact W.iret (v := sh) hx hb hr (fun t9 ht hW => ⟨_, rfl, (by rfl), ht⟩) (fun _ h => by cases h) dX12_shiftCount_7 hlocks

set_option maxHeartbeats 4000000 in
set_option maxRecDepth 100000 in
theorem m_X12_scrams (l9 : Launch) (D : va_G) (k : Nat → ClassId) (o bf pa pn pk sv tr tx li ll ac ci ch : Nat) (iz : Bool) (er fl : Int32) (qs qc qr ql : Nat → Nat) (lim sh sc : Int32) (fr : Nat → UInt32) (n : Nat) (w ly t a : Nat → Int32) (fx : Nat → UInt32) : Met l9 yX12_scrams wsX12_scrams ({ frames := 0, cells := 0, slots := 0, locals := 0 }) (RPc D k [.ref o] (bRO k o (qs 0) bf pa pn pk sv iz tr tx er fl li ll ac ci ch ++ bSt k qs qc qr ql lim sh sc fr ++ bClaims k qc n w ly t a fx)) (EI sc) 0 0 noA := by
  refine rMet (y := yX12_scrams) (cc := cX12_scrams) (maxL := 1) (ret := (some .int)) [.ref o] (by decide) rfl (Nat.le_of_ble_eq_true rfl) ?_
  intro p9 e9 s9 m9 bl9 me9 c9 ls hF hr hlocks hP hK hN hl
  have hl : lv_has ls 1 [(0, .ref o)] := hl
  obtain ⟨hx, hb, hml, hown, hts⟩ := id hF
  have k_fieldLink_10 : (Cond.fieldLink RX12 10 "OpinionReactor" "now" "LOpinionReactor$State;").before _ s9 = true := hts (.fieldLink RX12 10 "OpinionReactor" "now" "LOpinionReactor$State;") (by decide +kernel)
  have kc_RX12 : ∀ w ∈ u_ws RX12 TX12 16, w ∈ wsX12_scrams := by decide +kernel
  have k_fieldLink_283 : (Cond.fieldLink RX12 283 "OpinionReactor$State" "scramCount" "I").before _ s9 = true := hts (.fieldLink RX12 283 "OpinionReactor$State" "scramCount" "I") (by decide +kernel)
  have kc_RX11 : ∀ w ∈ u_ws RX11 TX11 7, w ∈ wsX12_scrams := by decide +kernel
  refine lv_aload_n hx hb dX12_scrams_0 rfl (lv_at hl 0 rfl) ?_
  refine va_get (D := D) (ci := 12) (v := .ref (qs 0)) (C := RX12) (T := TX12) (N := 16) hx hb hts kc_RX12 hown hK hP 0 rfl rfl 0 (by decide) k_fieldLink_10 (fun _ h9 => h9) rfl dX12_scrams_1 ?_
  refine va_get (D := D) (ci := 11) (v := .int sc) (C := RX11) (T := TX11) (N := 7) hx hb hts kc_RX11 hown hK hP 1 rfl rfl 5 (by decide) k_fieldLink_283 (fun _ h9 => h9) rfl dX12_scrams_4 ?_
  exact W.iret (v := sc) hx hb hr (fun t9 ht hW => ⟨_, rfl, (by rfl), ht⟩) (fun _ h => by cases h) dX12_scrams_7 hlocks

set_option maxHeartbeats 4000000 in
set_option maxRecDepth 100000 in
theorem m_X12_logCount (l9 : Launch) (D : va_G) (k : Nat → ClassId) (o bf pa pn pk sv tr tx li ll ac ci ch : Nat) (iz : Bool) (er fl : Int32) (qs qc qr ql : Nat → Nat) (lim sh sc : Int32) (fr : Nat → UInt32) (lsh lk : Nat → Int32) (lc lx : Nat) : Met l9 yX12_logCount wsX12_logCount ({ frames := 0, cells := 0, slots := 0, locals := 0 }) (RPc D k [.ref o] (bRO k o (qs 0) bf pa pn pk sv iz tr tx er fl li ll ac ci ch ++ bSt k qs qc qr ql lim sh sc fr ++ bLog k ql lsh lk lc lx)) (EI (nI lc)) 0 0 noA := by
  refine rMet (y := yX12_logCount) (cc := cX12_logCount) (maxL := 1) (ret := (some .int)) [.ref o] (by decide) rfl (Nat.le_of_ble_eq_true rfl) ?_
  intro p9 e9 s9 m9 bl9 me9 c9 ls hF hr hlocks hP hK hN hl
  have hl : lv_has ls 1 [(0, .ref o)] := hl
  obtain ⟨hx, hb, hml, hown, hts⟩ := id hF
  have k_fieldLink_10 : (Cond.fieldLink RX12 10 "OpinionReactor" "now" "LOpinionReactor$State;").before _ s9 = true := hts (.fieldLink RX12 10 "OpinionReactor" "now" "LOpinionReactor$State;") (by decide +kernel)
  have kc_RX12 : ∀ w ∈ u_ws RX12 TX12 16, w ∈ wsX12_logCount := by decide +kernel
  have k_fieldLink_291 : (Cond.fieldLink RX12 291 "OpinionReactor$State" "log" "LOpinionReactor$Log;").before _ s9 = true := hts (.fieldLink RX12 291 "OpinionReactor$State" "log" "LOpinionReactor$Log;") (by decide +kernel)
  have kc_RX11 : ∀ w ∈ u_ws RX11 TX11 7, w ∈ wsX12_logCount := by decide +kernel
  have k_fieldLink_295 : (Cond.fieldLink RX12 295 "OpinionReactor$Log" "count" "I").before _ s9 = true := hts (.fieldLink RX12 295 "OpinionReactor$Log" "count" "I") (by decide +kernel)
  have kc_RX8 : ∀ w ∈ u_ws RX8 TX8 4, w ∈ wsX12_logCount := by decide +kernel
  refine lv_aload_n hx hb dX12_logCount_0 rfl (lv_at hl 0 rfl) ?_
  refine va_get (D := D) (ci := 12) (v := .ref (qs 0)) (C := RX12) (T := TX12) (N := 16) hx hb hts kc_RX12 hown hK hP 0 rfl rfl 0 (by decide) k_fieldLink_10 (fun _ h9 => h9) rfl dX12_logCount_1 ?_
  refine va_get (D := D) (ci := 11) (v := .ref (ql 0)) (C := RX11) (T := TX11) (N := 7) hx hb hts kc_RX11 hown hK hP 1 rfl rfl 2 (by decide) k_fieldLink_291 (fun _ h9 => h9) rfl dX12_logCount_4 ?_
  refine va_get (D := D) (ci := 9) (v := .int (nI lc)) (C := RX8) (T := TX8) (N := 4) hx hb hts kc_RX8 hown hK hP 3 rfl rfl 2 (by decide) k_fieldLink_295 (fun _ h9 => h9) rfl dX12_logCount_7 ?_
  exact W.iret (v := nI lc) hx hb hr (fun t9 ht hW => ⟨_, rfl, (by rfl), ht⟩) (fun _ h => by cases h) dX12_logCount_10 hlocks

set_option maxHeartbeats 4000000 in
set_option maxRecDepth 100000 in
theorem m_X12_statusSign (l9 : Launch) (D : va_G) (k : Nat → ClassId) (o bf pa pn pk sv tr tx li ll ac ci ch : Nat) (iz : Bool) (er fl : Int32) (qs qc qr ql : Nat → Nat) (lim sh sc : Int32) (fr : Nat → UInt32) (n : Nat) (w ly t a : Nat → Int32) (fx : Nat → UInt32) (j : Nat) (hn : n ≤ 10) (hj : j < 32) : Met l9 yX12_statusSign wsX12_statusSign ({ frames := 6, cells := 0, slots := 0, locals := 131 }) (RPc D k [.ref o, .int (nI j)] (bRO k o (qs 0) bf pa pn pk sv iz tr tx er fl li ll ac ci ch ++ bSt k qs qc qr ql lim sh sc fr ++ bClaims k qc n w ly t a fx)) (EI (ssS n t a j)) 0 0 noA := by
  refine rMet (y := yX12_statusSign) (cc := cX12_statusSign) (maxL := 2) (ret := (some .char)) [.ref o, .int (nI j)] (by decide) rfl (Nat.le_of_ble_eq_true rfl) ?_
  intro p9 e9 s9 m9 bl9 me9 c9 ls hF hr hlocks hP hK hN hl
  have hl : lv_has ls 2 [(0, .ref o), (1, .int (nI j))] := hl
  obtain ⟨hx, hb, hml, hown, hts⟩ := id hF
  refine lv_aload_n hx hb dX12_statusSign_0 rfl (lv_at hl 0 rfl) ?_
  refine vp_callSi (W.runV (As := []) (rest := []) hF (m_X12_acceptedBits l9 D k o bf pa pn pk sv tr tx li ll ac ci ch iz er fl qs qc qr ql lim sh sc fr n w ly t a fx hn) (cwV 0 hts gX12_statusSign_X12_acceptedBits rfl rfl rfl (by decide +kernel) ⟨Nat.le_of_ble_eq_true rfl, Nat.le_of_ble_eq_true rfl⟩) (rPreV hK hN hP [0, 1, 2, 3, 4, 5, 6, 7, 8] rfl 0 12 rfl rfl) rfl rfl hl.1 rfl (lv_room (Nat.le_of_ble_eq_true rfl)) dX12_statusSign_1 ⟨Nat.zero_le _, Nat.zero_le _⟩) (fun r_1 hr_1 => ?_)
  subst hr_1
  refine lv_iload_n hx hb dX12_statusSign_4 rfl (lv_at hl 1 rfl) ?_
  refine vp_callSi (W.runS (As := [.int (accS n t a), .int (nI j)]) (rest := []) hF (m_X12_contains l9 D k (accS n t a) j hj) (va_cwS 2 hts gX12_statusSign_X12_contains rfl rfl rfl (by decide +kernel) ⟨Nat.le_of_ble_eq_true rfl, Nat.le_of_ble_eq_true rfl⟩) (rPreS hK hN hP [] rfl) rfl rfl hl.1 rfl (lv_room (Nat.le_of_ble_eq_true rfl)) dX12_statusSign_5 ⟨Nat.zero_le _, Nat.zero_le _⟩) (fun r_2 hr_2 => ?_)
  subst hr_2
  refine lv_if_eq (tgt := 14) hx hb dX12_statusSign_8 (by decide) (fun c_3 => ?_) (fun c_3 => ?_)
  · skip
    have c_3 : (tb (accS n t a) j) = false := bI_0 c_3
    refine lv_aload_n hx hb dX12_statusSign_14 rfl (lv_at hl 0 rfl) ?_
    refine vp_callSi (W.runV (As := []) (rest := []) hF (m_X12_rejectedBits l9 D k o bf pa pn pk sv tr tx li ll ac ci ch iz er fl qs qc qr ql lim sh sc fr n w ly t a fx hn) (cwV 0 hts gX12_statusSign_X12_rejectedBits rfl rfl rfl (by decide +kernel) ⟨Nat.le_of_ble_eq_true rfl, Nat.le_of_ble_eq_true rfl⟩) (rPreV hK hN hP [0, 1, 2, 3, 4, 5, 6, 7, 8] rfl 0 12 rfl rfl) rfl rfl hl.1 rfl (lv_room (Nat.le_of_ble_eq_true rfl)) dX12_statusSign_15 ⟨Nat.zero_le _, Nat.zero_le _⟩) (fun r_4 hr_4 => ?_)
    subst hr_4
    refine lv_iload_n hx hb dX12_statusSign_18 rfl (lv_at hl 1 rfl) ?_
    refine vp_callSi (W.runS (As := [.int (orS n t (accS n t a)), .int (nI j)]) (rest := []) hF (m_X12_contains l9 D k (orS n t (accS n t a)) j hj) (va_cwS 2 hts gX12_statusSign_X12_contains rfl rfl rfl (by decide +kernel) ⟨Nat.le_of_ble_eq_true rfl, Nat.le_of_ble_eq_true rfl⟩) (rPreS hK hN hP [] rfl) rfl rfl hl.1 rfl (lv_room (Nat.le_of_ble_eq_true rfl)) dX12_statusSign_19 ⟨Nat.zero_le _, Nat.zero_le _⟩) (fun r_5 hr_5 => ?_)
    subst hr_5
    refine lv_if_eq (tgt := 30) hx hb dX12_statusSign_22 (by decide) (fun c_6 => ?_) (fun c_6 => ?_)
    · skip
      have c_6 : (tb (orS n t (accS n t a)) j) = false := bI_0 c_6
      refine lv_bipush (v := 63) hx hb dX12_statusSign_30 (by decide) ?_
      exact W.zret (v := 63) hx hb hr (rfl) (fun t9 ht hW => ⟨_, rfl, (by unfold ssS; first | (rw [if_neg (fun h9 => Bool.noConfusion (Eq.trans (Eq.symm h9) (show tb (accS n t a) j = false by assumption))), if_pos (by assumption)]; done) | (rw [if_neg (fun h9 => Bool.noConfusion (Eq.trans (Eq.symm h9) (show tb (accS n t a) j = false by assumption))), if_neg (fun h9 => Bool.noConfusion (Eq.trans (Eq.symm h9) (show tb (orS n t (accS n t a)) j = false by assumption)))]; done)), ht⟩) (fun _ h => by cases h) dX12_statusSign_32 hlocks
    · skip
      have c_6 : (tb (orS n t (accS n t a)) j) = true := bI_1 c_6
      refine lv_bipush (v := 45) hx hb dX12_statusSign_25 (by decide) ?_
      refine lv_goto (tgt := 32) hx hb dX12_statusSign_27 (by decide) ?_
      exact W.zret (v := 45) hx hb hr (rfl) (fun t9 ht hW => ⟨_, rfl, (by unfold ssS; first | (rw [if_neg (fun h9 => Bool.noConfusion (Eq.trans (Eq.symm h9) (show tb (accS n t a) j = false by assumption))), if_pos (by assumption)]; done) | (rw [if_neg (fun h9 => Bool.noConfusion (Eq.trans (Eq.symm h9) (show tb (accS n t a) j = false by assumption))), if_neg (fun h9 => Bool.noConfusion (Eq.trans (Eq.symm h9) (show tb (orS n t (accS n t a)) j = false by assumption)))]; done)), ht⟩) (fun _ h => by cases h) dX12_statusSign_32 hlocks
  · skip
    have c_3 : (tb (accS n t a) j) = true := bI_1 c_3
    refine lv_bipush (v := 43) hx hb dX12_statusSign_11 (by decide) ?_
    exact W.zret (v := 43) hx hb hr (rfl) (fun t9 ht hW => ⟨_, rfl, (by unfold ssS; rw [if_pos (by assumption)]), ht⟩) (fun _ h => by cases h) dX12_statusSign_13 hlocks

set_option maxHeartbeats 4000000 in
set_option maxRecDepth 100000 in
theorem m_X12_digit (l9 : Launch) (D : va_G) (k : Nat → ClassId) (c : Nat) : Met l9 yX12_digit wsX12_digit ({ frames := 0, cells := 0, slots := 0, locals := 0 }) (RPc D k [.int (nI c)] ([])) (EI (dg9 c)) 0 0 noA := by
  refine rMet (y := yX12_digit) (cc := cX12_digit) (maxL := 1) (ret := (some .char)) [.int (nI c)] (by decide) rfl (Nat.le_of_ble_eq_true rfl) ?_
  intro p9 e9 s9 m9 bl9 me9 c9 ls hF hr hlocks hP hK hN hl
  have hl : lv_has ls 1 [(0, .int (nI c))] := hl
  obtain ⟨hx, hb, hml, hown, hts⟩ := id hF
  refine lv_bipush (v := 48) hx hb dX12_digit_0 (by decide) ?_
  refine lv_iload_n hx hb dX12_digit_2 rfl (lv_at hl 0 rfl) ?_
  refine ni_add hx hb 48 c dX12_digit_3 ?_
  refine lv_i2c hx hb dX12_digit_4 rfl ?_
  exact W.zret (v := ((nI (48 + c)).toUInt32 % 65536).toInt32) hx hb hr (pk_nc _) (fun t9 ht hW => ⟨_, rfl, (by rfl), ht⟩) (fun _ h => by cases h) dX12_digit_5 hlocks

set_option maxHeartbeats 4000000 in
set_option maxRecDepth 100000 in
theorem m_X12_acceptedBitsByLabels (l9 : Launch) (D : va_G) (k : Nat → ClassId) (sz : Nat) (o bf pa pn pk sv tr tx li ll ac ci ch : Nat) (iz : Bool) (er fl : Int32) (qs qc qr ql : Nat → Nat) (lim sh sc : Int32) (fr : Nat → UInt32) (n : Nat) (w ly t a : Nat → Int32) (fx : Nat → UInt32) (qk : Nat → Nat) (lf : Nat → Int32) (hn : n ≤ 10) (hlow : ∀ c, c < n → lowB (a c)) : Met l9 yX12_acceptedBitsByLabels wsX12_acceptedBitsByLabels ({ frames := 3, cells := 0, slots := 0, locals := 70 }) (WPc D k [.ref o] (bRO k o (qs 0) bf pa pn pk sv iz tr tx er fl li ll (qk 0) ci ch ++ bSt k qs qc qr ql lim sh sc fr ++ bClaims k qc n w ly t a fx ++ bAcc k qk lf) sz) (WI D k (bRO k o (qs 0) bf pa pn pk sv iz tr tx er fl li ll (qk 0) ci ch ++ bSt k qs qc qr ql lim sh sc fr ++ bClaims k qc n w ly t a fx ++ bAcc k qk ((itL n t a lf n).2.2)) ((itL n t a lf n).1) (va_A (bRO k o (qs 0) bf pa pn pk sv iz tr tx er fl li ll (qk 0) ci ch ++ bSt k qs qc qr ql lim sh sc fr ++ bClaims k qc n w ly t a fx ++ bAcc k qk lf) sz)) 0 0 (va_A (bRO k o (qs 0) bf pa pn pk sv iz tr tx er fl li ll (qk 0) ci ch ++ bSt k qs qc qr ql lim sh sc fr ++ bClaims k qc n w ly t a fx ++ bAcc k qk lf) sz) := by
  refine wMet (y := yX12_acceptedBitsByLabels) (cc := cX12_acceptedBitsByLabels) (maxL := 1) (ret := (some .int)) (Qc := fun A => WI D k (bRO k o (qs 0) bf pa pn pk sv iz tr tx er fl li ll (qk 0) ci ch ++ bSt k qs qc qr ql lim sh sc fr ++ bClaims k qc n w ly t a fx ++ bAcc k qk ((itL n t a lf n).2.2)) ((itL n t a lf n).1) A) [.ref o] (by decide) rfl (Nat.le_of_ble_eq_true rfl) ?_
  intro p9 e9 s9 m9 bl9 me9 c9 ls A H hF hr hlocks hP hK hN hD hA hS hl hin
  have hl : lv_has ls 1 [(0, .ref o)] := hl
  obtain ⟨hx, hb, hml, hown, hts⟩ := id hF
  have k_fieldLink_63 : (Cond.fieldLink RX12 63 "OpinionReactor" "accepting" "LOpinionReactor$Accepting;").before _ s9 = true := hts (.fieldLink RX12 63 "OpinionReactor" "accepting" "LOpinionReactor$Accepting;") (by decide +kernel)
  have kc_RX12 : ∀ w ∈ u_ws RX12 TX12 16, w ∈ wsX12_acceptedBitsByLabels := by decide +kernel
  have k_fieldLink_10 : (Cond.fieldLink RX12 10 "OpinionReactor" "now" "LOpinionReactor$State;").before _ s9 = true := hts (.fieldLink RX12 10 "OpinionReactor" "now" "LOpinionReactor$State;") (by decide +kernel)
  have k_fieldLink_85 : (Cond.fieldLink RX12 85 "OpinionReactor$State" "claims" "LOpinionReactor$Claims;").before _ s9 = true := hts (.fieldLink RX12 85 "OpinionReactor$State" "claims" "LOpinionReactor$Claims;") (by decide +kernel)
  have kc_RX11 : ∀ w ∈ u_ws RX11 TX11 7, w ∈ wsX12_acceptedBitsByLabels := by decide +kernel
  refine lv_aload_n hx hb dX12_acceptedBitsByLabels_0 rfl (lv_at hl 0 rfl) ?_
  refine va_get (D := D) (ci := 12) (v := .ref (qk 0)) (C := RX12) (T := TX12) (N := 16) hx hb hts kc_RX12 hown hK hP 0 rfl rfl 13 (by decide) k_fieldLink_63 (fun _ h9 => h9) rfl dX12_acceptedBitsByLabels_1 ?_
  refine lv_aload_n hx hb dX12_acceptedBitsByLabels_4 rfl (lv_at hl 0 rfl) ?_
  refine va_get (D := D) (ci := 12) (v := .ref (qs 0)) (C := RX12) (T := TX12) (N := 16) hx hb hts kc_RX12 hown hK hP 0 rfl rfl 0 (by decide) k_fieldLink_10 (fun _ h9 => h9) rfl dX12_acceptedBitsByLabels_5 ?_
  refine va_get (D := D) (ci := 11) (v := .ref (qc 0)) (C := RX11) (T := TX11) (N := 7) hx hb hts kc_RX11 hown hK hP 1 rfl rfl 0 (by decide) k_fieldLink_85 (fun _ h9 => h9) rfl dX12_acceptedBitsByLabels_8 ?_
  have hFc := va_free (wc := bAcc k qk lf ++ bClaims k qc n w ly t a fx) hD hS hA [9, 10, 3, 4, 5, 6, 7, 8] rfl
  refine va_calli (va_runV (As := [.ref (qc 0)]) (rest := []) hF (m_X1_byLabels l9 D k H.size qc n w ly t a fx qk lf hn hlow) (cwV 1 hts gX12_acceptedBitsByLabels_X1_byLabels rfl rfl rfl (by decide +kernel) ⟨Nat.le_of_ble_eq_true rfl, Nat.le_of_ble_eq_true rfl⟩) (wPreV hK hN hP hD [9, 10, 3, 4, 5, 6, 7, 8] rfl (by decide) rfl 9 4 rfl rfl) rfl rfl hl.1 rfl (lv_room (Nat.le_of_ble_eq_true rfl)) dX12_acceptedBitsByLabels_11 ⟨Nat.zero_le _, Nat.zero_le _⟩) hS (fun q _ h => hFc q h) hFc (fun r u9 t9 H1 locs ht hvm hw hB hz1 hk1 hS => ?_)
  obtain ⟨hP, hD⟩ := wjoin (wr := bRO k o (qs 0) bf pa pn pk sv iz tr tx er fl li ll (qk 0) ci ch ++ bSt k qs qc qr ql lim sh sc fr) (wf := bRO k o (qs 0) bf pa pn pk sv iz tr tx er fl li ll (qk 0) ci ch ++ bSt k qs qc qr ql lim sh sc fr ++ bClaims k qc n w ly t a fx ++ bAcc k qk ((itL n t a lf n).2.2)) hP hD [9, 10, 3, 4, 5, 6, 7, 8] [0, 1, 2] [0, 1, 2, 5, 6, 7, 8, 9, 10, 3, 4] rfl rfl (by decide) (by decide) hk1 hFc hB ht rfl rfl (by decide)
  subst hw
  clear hB hk1 hz1 hvm hFc
  clear ht
  clear t9
  generalize H1 = H at hP hS ⊢
  exact W.iret (v := (itL n t a lf n).1) hx hb hr (fun t9 ht hW => ⟨⟨_, (), rfl, (by rfl), ⟨by rw [ht]; exact hP, va_K.moved hW.alike hK, hD⟩⟩, hS.F ht⟩) hS.2.2 dX12_acceptedBitsByLabels_14 hlocks

set_option maxHeartbeats 4000000 in
set_option maxRecDepth 100000 in
theorem m_X12_circlesByReach (l9 : Launch) (D : va_G) (k : Nat → ClassId) (sz : Nat) (o bf pa pn pk sv tr tx li ll ac ci ch : Nat) (iz : Bool) (er fl : Int32) (qs qc qr ql : Nat → Nat) (lim sh sc : Int32) (fr : Nat → UInt32) (n : Nat) (w ly t a : Nat → Int32) (fx : Nat → UInt32) (qk : Nat → Nat) (rd : Nat → Int32) (hn : n ≤ 10) : Met l9 yX12_circlesByReach wsX12_circlesByReach ({ frames := 3, cells := 0, slots := 0, locals := 67 }) (WPc D k [.ref o] (bRO k o (qs 0) bf pa pn pk sv iz tr tx er fl li ll ac (qk 0) ch ++ bSt k qs qc qr ql lim sh sc fr ++ bClaims k qc n w ly t a fx ++ bCirc k qk rd) sz) (WI D k (bRO k o (qs 0) bf pa pn pk sv iz tr tx er fl li ll ac (qk 0) ch ++ bSt k qs qc qr ql lim sh sc fr ++ bClaims k qc n w ly t a fx ++ bCirc k qk (rchS n t rd)) (nI (cntL (rchS n t rd) n)) (va_A (bRO k o (qs 0) bf pa pn pk sv iz tr tx er fl li ll ac (qk 0) ch ++ bSt k qs qc qr ql lim sh sc fr ++ bClaims k qc n w ly t a fx ++ bCirc k qk rd) sz)) 0 0 (va_A (bRO k o (qs 0) bf pa pn pk sv iz tr tx er fl li ll ac (qk 0) ch ++ bSt k qs qc qr ql lim sh sc fr ++ bClaims k qc n w ly t a fx ++ bCirc k qk rd) sz) := by
  refine wMet (y := yX12_circlesByReach) (cc := cX12_circlesByReach) (maxL := 1) (ret := (some .int)) (Qc := fun A => WI D k (bRO k o (qs 0) bf pa pn pk sv iz tr tx er fl li ll ac (qk 0) ch ++ bSt k qs qc qr ql lim sh sc fr ++ bClaims k qc n w ly t a fx ++ bCirc k qk (rchS n t rd)) (nI (cntL (rchS n t rd) n)) A) [.ref o] (by decide) rfl (Nat.le_of_ble_eq_true rfl) ?_
  intro p9 e9 s9 m9 bl9 me9 c9 ls A H hF hr hlocks hP hK hN hD hA hS hl hin
  have hl : lv_has ls 1 [(0, .ref o)] := hl
  obtain ⟨hx, hb, hml, hown, hts⟩ := id hF
  have k_fieldLink_70 : (Cond.fieldLink RX12 70 "OpinionReactor" "circling" "LOpinionReactor$Circles;").before _ s9 = true := hts (.fieldLink RX12 70 "OpinionReactor" "circling" "LOpinionReactor$Circles;") (by decide +kernel)
  have kc_RX12 : ∀ w ∈ u_ws RX12 TX12 16, w ∈ wsX12_circlesByReach := by decide +kernel
  have k_fieldLink_10 : (Cond.fieldLink RX12 10 "OpinionReactor" "now" "LOpinionReactor$State;").before _ s9 = true := hts (.fieldLink RX12 10 "OpinionReactor" "now" "LOpinionReactor$State;") (by decide +kernel)
  have k_fieldLink_85 : (Cond.fieldLink RX12 85 "OpinionReactor$State" "claims" "LOpinionReactor$Claims;").before _ s9 = true := hts (.fieldLink RX12 85 "OpinionReactor$State" "claims" "LOpinionReactor$Claims;") (by decide +kernel)
  have kc_RX11 : ∀ w ∈ u_ws RX11 TX11 7, w ∈ wsX12_circlesByReach := by decide +kernel
  refine lv_aload_n hx hb dX12_circlesByReach_0 rfl (lv_at hl 0 rfl) ?_
  refine va_get (D := D) (ci := 12) (v := .ref (qk 0)) (C := RX12) (T := TX12) (N := 16) hx hb hts kc_RX12 hown hK hP 0 rfl rfl 14 (by decide) k_fieldLink_70 (fun _ h9 => h9) rfl dX12_circlesByReach_1 ?_
  refine lv_aload_n hx hb dX12_circlesByReach_4 rfl (lv_at hl 0 rfl) ?_
  refine va_get (D := D) (ci := 12) (v := .ref (qs 0)) (C := RX12) (T := TX12) (N := 16) hx hb hts kc_RX12 hown hK hP 0 rfl rfl 0 (by decide) k_fieldLink_10 (fun _ h9 => h9) rfl dX12_circlesByReach_5 ?_
  refine va_get (D := D) (ci := 11) (v := .ref (qc 0)) (C := RX11) (T := TX11) (N := 7) hx hb hts kc_RX11 hown hK hP 1 rfl rfl 0 (by decide) k_fieldLink_85 (fun _ h9 => h9) rfl dX12_circlesByReach_8 ?_
  have hFc := va_free (wc := bCirc k qk rd ++ bClaims k qc n w ly t a fx) hD hS hA [9, 10, 3, 4, 5, 6, 7, 8] rfl
  refine va_calli (va_runV (As := [.ref (qc 0)]) (rest := []) hF (m_X4_byReach l9 D k H.size qc n w ly t a fx qk rd hn) (cwV 1 hts gX12_circlesByReach_X4_byReach rfl rfl rfl (by decide +kernel) ⟨Nat.le_of_ble_eq_true rfl, Nat.le_of_ble_eq_true rfl⟩) (wPreV hK hN hP hD [9, 10, 3, 4, 5, 6, 7, 8] rfl (by decide) rfl 9 6 rfl rfl) rfl rfl hl.1 rfl (lv_room (Nat.le_of_ble_eq_true rfl)) dX12_circlesByReach_11 ⟨Nat.zero_le _, Nat.zero_le _⟩) hS (fun q _ h => hFc q h) hFc (fun r u9 t9 H1 locs ht hvm hw hB hz1 hk1 hS => ?_)
  obtain ⟨hP, hD⟩ := wjoin (wr := bRO k o (qs 0) bf pa pn pk sv iz tr tx er fl li ll ac (qk 0) ch ++ bSt k qs qc qr ql lim sh sc fr) (wf := bRO k o (qs 0) bf pa pn pk sv iz tr tx er fl li ll ac (qk 0) ch ++ bSt k qs qc qr ql lim sh sc fr ++ bClaims k qc n w ly t a fx ++ bCirc k qk (rchS n t rd)) hP hD [9, 10, 3, 4, 5, 6, 7, 8] [0, 1, 2] [0, 1, 2, 5, 6, 7, 8, 9, 10, 3, 4] rfl rfl (by decide) (by decide) hk1 hFc hB ht rfl rfl (by decide)
  subst hw
  clear hB hk1 hz1 hvm hFc
  clear ht
  clear t9
  generalize H1 = H at hP hS ⊢
  exact W.iret (v := nI (cntL (rchS n t rd) n)) hx hb hr (fun t9 ht hW => ⟨⟨_, (), rfl, (by rfl), ⟨by rw [ht]; exact hP, va_K.moved hW.alike hK, hD⟩⟩, hS.F ht⟩) hS.2.2 dX12_circlesByReach_14 hlocks

set_option maxHeartbeats 4000000 in
set_option maxRecDepth 100000 in
theorem m_X12_write (l9 : Launch) (D : va_G) (k : Nat → ClassId) (sz : Nat) (now : Nat) (o bf pa pn pk sv tr tx li ll ac ci ch : Nat) (iz : Bool) (er fl : Int32) (le : Nat → Int32) (x : Int32) (hll : ll ≤ 19) (hz : vp_nar .char x = x) : Met l9 yX12_write wsX12_write ({ frames := 0, cells := 0, slots := 0, locals := 0 }) (WPc D k [.ref o, .int x] (bRO k o now bf pa pn pk sv iz tr tx er fl li ll ac ci ch ++ bC19 k li le) sz) (WV D k (bRO k o now bf pa pn pk sv iz tr tx er fl li ((wrC (le, ll) x).2) ac ci ch ++ bC19 k li ((wrC (le, ll) x).1)) (va_A (bRO k o now bf pa pn pk sv iz tr tx er fl li ll ac ci ch ++ bC19 k li le) sz)) 0 0 (va_A (bRO k o now bf pa pn pk sv iz tr tx er fl li ll ac ci ch ++ bC19 k li le) sz) := by
  refine wMet (y := yX12_write) (cc := cX12_write) (maxL := 2) (ret := none) (Qc := fun A => WV D k (bRO k o now bf pa pn pk sv iz tr tx er fl li ((wrC (le, ll) x).2) ac ci ch ++ bC19 k li ((wrC (le, ll) x).1)) A) [.ref o, .int x] (by decide) rfl (Nat.le_of_ble_eq_true rfl) ?_
  intro p9 e9 s9 m9 bl9 me9 c9 ls A H hF hr hlocks hP hK hN hD hA hS hl hin
  have hl : lv_has ls 2 [(0, .ref o), (1, .int x)] := hl
  obtain ⟨hx, hb, hml, hown, hts⟩ := id hF
  have k_fieldLink_57 : (Cond.fieldLink RX12 57 "OpinionReactor" "lineLength" "I").before _ s9 = true := hts (.fieldLink RX12 57 "OpinionReactor" "lineLength" "I") (by decide +kernel)
  have kc_RX12 : ∀ w ∈ u_ws RX12 TX12 16, w ∈ wsX12_write := by decide +kernel
  have k_fieldLink_53 : (Cond.fieldLink RX12 53 "OpinionReactor" "line" "[C").before _ s9 = true := hts (.fieldLink RX12 53 "OpinionReactor" "line" "[C") (by decide +kernel)
  refine lv_aload_n hx hb dX12_write_0 rfl (lv_at hl 0 rfl) ?_
  refine va_get (D := D) (ci := 12) (v := .int (nI ll)) (C := RX12) (T := TX12) (N := 16) hx hb hts kc_RX12 hown hK hP 0 rfl rfl 12 (by decide) k_fieldLink_57 (fun _ h9 => h9) rfl dX12_write_1 ?_
  refine lv_aload_n hx hb dX12_write_4 rfl (lv_at hl 0 rfl) ?_
  refine va_get (D := D) (ci := 12) (v := .ref li) (C := RX12) (T := TX12) (N := 16) hx hb hts kc_RX12 hown hK hP 0 rfl rfl 11 (by decide) k_fieldLink_53 (fun _ h9 => h9) rfl dX12_write_5 ?_
  refine va_alen (v := 19) hx hb hK hP 1 1 rfl rfl rfl dX12_write_8 ?_
  refine lv_icmp_ge (tgt := 32) hx hb dX12_write_9 (by decide) (fun c_1 => ?_) (fun c_1 => ?_)
  · skip
    have c_1 : 19 ≤ ll := (nI_leI (a := 19) (b := ll) (by omega) (by omega)).mp c_1
    have e_2 : (ll : Nat) = (wrC (le, ll) x).2 := by first | (with_reducible rfl) | (first | (rw [wrC_in (by omega)]; done) | (rw [wrC_out (by omega)]; done))
    have hP := Eq.mp (congrArg (fun z9 => va_P D vwCl (bRO k o now bf pa pn pk sv iz tr tx er fl li z9 ac ci ch ++ bC19 k li le) H) e_2) hP
    have hD := Eq.mp (congrArg (fun z9 => va_D A (bRO k o now bf pa pn pk sv iz tr tx er fl li z9 ac ci ch ++ bC19 k li le)) e_2) hD
    have e_3 : (le : Nat → Int32) = (wrC (le, ll) x).1 := by first | (with_reducible rfl) | (first | (rw [wrC_in (by omega)]; done) | (rw [wrC_out (by omega)]; done))
    have hP := Eq.mp (congrArg (fun z9 => va_P D vwCl (bRO k o now bf pa pn pk sv iz tr tx er fl li ((wrC (le, ll) x).2) ac ci ch ++ bC19 k li z9) H) e_3) hP
    have hD := Eq.mp (congrArg (fun z9 => va_D A (bRO k o now bf pa pn pk sv iz tr tx er fl li ((wrC (le, ll) x).2) ac ci ch ++ bC19 k li z9)) e_3) hD
    exact W.vret hx hb hr (fun t9 ht hW => ⟨⟨(), rfl, trivial, ⟨by rw [ht]; exact hP, va_K.moved hW.alike hK, hD⟩⟩, hS.F ht⟩) hS.2.2 dX12_write_32 hlocks
  · skip
    have c_1 : ¬ 19 ≤ ll := fun h => c_1 ((nI_leI (a := 19) (b := ll) (by omega) (by omega)).mpr h)
    refine lv_aload_n hx hb dX12_write_12 rfl (lv_at hl 0 rfl) ?_
    refine va_get (D := D) (ci := 12) (v := .ref li) (C := RX12) (T := TX12) (N := 16) hx hb hts kc_RX12 hown hK hP 0 rfl rfl 11 (by decide) k_fieldLink_53 (fun _ h9 => h9) rfl dX12_write_13 ?_
    refine lv_aload_n hx hb dX12_write_16 rfl (lv_at hl 0 rfl) ?_
    refine va_get (D := D) (ci := 12) (v := .int (nI ll)) (C := RX12) (T := TX12) (N := 16) hx hb hts kc_RX12 hown hK hP 0 rfl rfl 12 (by decide) k_fieldLink_57 (fun _ h9 => h9) rfl dX12_write_17 ?_
    refine lv_iload_n hx hb dX12_write_20 rfl (lv_at hl 1 rfl) ?_
    refine ca_st hx hb hK hP hD hS 1 rfl ll (by omega) (by decide) (by assumption) (bRO k o now bf pa pn pk sv iz tr tx er fl li ll ac ci ch ++ bC19 k li (upd le ll x)) rfl dX12_write_21 (fun H locs hP hD hS => ?_)
    refine lv_aload_n hx hb dX12_write_22 rfl (lv_at hl 0 rfl) ?_
    refine lv_dup hx hb dX12_write_23 rfl ?_
    refine va_get (D := D) (ci := 12) (v := .int (nI ll)) (C := RX12) (T := TX12) (N := 16) hx hb hts kc_RX12 hown hK hP 0 rfl rfl 12 (by decide) k_fieldLink_57 (fun _ h9 => h9) rfl dX12_write_24 ?_
    refine lv_iconst (v := 1) hx hb dX12_write_27 (by decide) ?_
    refine ni_add hx hb ll 1 dX12_write_28 ?_
    refine va_put (D := D) (ci := 12) (v := .int (nI (ll + 1))) (ty := .int) (C := RX12) (T := TX12) (N := 16) hx hb hts kc_RX12 tyX12 tyX12_ok nmX12 hown hK hP hD hS 0 rfl rfl 12 (by decide) k_fieldLink_57 (fun _ h9 => h9) rfl (by decide +kernel) rfl rfl (Nat.le_of_ble_eq_true rfl) dX12_write_29 (fun H locs hP hD hS => ?_)
    have hP : va_P D vwCl (bRO k o now bf pa pn pk sv iz tr tx er fl li (ll + 1) ac ci ch ++ bC19 k li (upd le ll x)) H := hP
    have hD : va_D A (bRO k o now bf pa pn pk sv iz tr tx er fl li (ll + 1) ac ci ch ++ bC19 k li (upd le ll x)) := hD
    have e_4 : (ll + 1 : Nat) = (wrC (le, ll) x).2 := by first | (with_reducible rfl) | (first | (rw [wrC_in (by omega)]; done) | (rw [wrC_out (by omega)]; done))
    have hP := Eq.mp (congrArg (fun z9 => va_P D vwCl (bRO k o now bf pa pn pk sv iz tr tx er fl li z9 ac ci ch ++ bC19 k li (upd le ll x)) H) e_4) hP
    have hD := Eq.mp (congrArg (fun z9 => va_D A (bRO k o now bf pa pn pk sv iz tr tx er fl li z9 ac ci ch ++ bC19 k li (upd le ll x))) e_4) hD
    have e_5 : (upd le ll x : Nat → Int32) = (wrC (le, ll) x).1 := by first | (with_reducible rfl) | (first | (rw [wrC_in (by omega)]; done) | (rw [wrC_out (by omega)]; done))
    have hP := Eq.mp (congrArg (fun z9 => va_P D vwCl (bRO k o now bf pa pn pk sv iz tr tx er fl li ((wrC (le, ll) x).2) ac ci ch ++ bC19 k li z9) H) e_5) hP
    have hD := Eq.mp (congrArg (fun z9 => va_D A (bRO k o now bf pa pn pk sv iz tr tx er fl li ((wrC (le, ll) x).2) ac ci ch ++ bC19 k li z9)) e_5) hD
    exact W.vret hx hb hr (fun t9 ht hW => ⟨⟨(), rfl, trivial, ⟨by rw [ht]; exact hP, va_K.moved hW.alike hK, hD⟩⟩, hS.F ht⟩) hS.2.2 dX12_write_32 hlocks

set_option maxHeartbeats 4000000 in
set_option maxRecDepth 100000 in
theorem m_X12_needClaim (l9 : Launch) (D : va_G) (k : Nat → ClassId) (sz : Nat) (o bf pa pn pk sv tr tx li ll ac ci ch : Nat) (iz : Bool) (er fl : Int32) (qs qc qr ql : Nat → Nat) (lim sh sc : Int32) (fr : Nat → UInt32) (n : Nat) (w ly t a : Nat → Int32) (fx : Nat → UInt32) (x : Int32) (hxn : inC n x = true) : Met l9 yX12_needClaim wsX12_needClaim ({ frames := 1, cells := 0, slots := 0, locals := 21 }) (WPc D k [.ref o, .int x] (bRO k o (qs 0) bf pa pn pk sv iz tr tx er fl li ll ac ci ch ++ bSt k qs qc qr ql lim sh sc fr ++ bClaims k qc n w ly t a fx) sz) (WV D k (bRO k o (qs 0) bf pa pn pk sv iz tr tx er fl li ll ac ci ch ++ bSt k qs qc qr ql lim sh sc fr ++ bClaims k qc n w ly t a fx) (va_A (bRO k o (qs 0) bf pa pn pk sv iz tr tx er fl li ll ac ci ch ++ bSt k qs qc qr ql lim sh sc fr ++ bClaims k qc n w ly t a fx) sz)) 0 0 (va_A (bRO k o (qs 0) bf pa pn pk sv iz tr tx er fl li ll ac ci ch ++ bSt k qs qc qr ql lim sh sc fr ++ bClaims k qc n w ly t a fx) sz) := by
  refine wMet (y := yX12_needClaim) (cc := cX12_needClaim) (maxL := 2) (ret := none) (Qc := fun A => WV D k (bRO k o (qs 0) bf pa pn pk sv iz tr tx er fl li ll ac ci ch ++ bSt k qs qc qr ql lim sh sc fr ++ bClaims k qc n w ly t a fx) A) [.ref o, .int x] (by decide) rfl (Nat.le_of_ble_eq_true rfl) ?_
  intro p9 e9 s9 m9 bl9 me9 c9 ls A H hF hr hlocks hP hK hN hD hA hS hl hin
  have hl : lv_has ls 2 [(0, .ref o), (1, .int x)] := hl
  obtain ⟨hx, hb, hml, hown, hts⟩ := id hF
  have k_fieldLink_10 : (Cond.fieldLink RX12 10 "OpinionReactor" "now" "LOpinionReactor$State;").before _ s9 = true := hts (.fieldLink RX12 10 "OpinionReactor" "now" "LOpinionReactor$State;") (by decide +kernel)
  have kc_RX12 : ∀ w ∈ u_ws RX12 TX12 16, w ∈ wsX12_needClaim := by decide +kernel
  have k_fieldLink_85 : (Cond.fieldLink RX12 85 "OpinionReactor$State" "claims" "LOpinionReactor$Claims;").before _ s9 = true := hts (.fieldLink RX12 85 "OpinionReactor$State" "claims" "LOpinionReactor$Claims;") (by decide +kernel)
  have kc_RX11 : ∀ w ∈ u_ws RX11 TX11 7, w ∈ wsX12_needClaim := by decide +kernel
  refine lv_aload_n hx hb dX12_needClaim_0 rfl (lv_at hl 0 rfl) ?_
  refine va_get (D := D) (ci := 12) (v := .ref (qs 0)) (C := RX12) (T := TX12) (N := 16) hx hb hts kc_RX12 hown hK hP 0 rfl rfl 0 (by decide) k_fieldLink_10 (fun _ h9 => h9) rfl dX12_needClaim_1 ?_
  refine va_get (D := D) (ci := 11) (v := .ref (qc 0)) (C := RX11) (T := TX11) (N := 7) hx hb hts kc_RX11 hown hK hP 1 rfl rfl 0 (by decide) k_fieldLink_85 (fun _ h9 => h9) rfl dX12_needClaim_4 ?_
  refine lv_iload_n hx hb dX12_needClaim_7 rfl (lv_at hl 1 rfl) ?_
  refine vp_callSi (W.runV (As := [.int x]) (rest := []) hF (m_X5_has l9 D k qc n w ly t a fx x ) (cwV 1 hts gX12_needClaim_X5_has rfl rfl rfl (by decide +kernel) ⟨Nat.le_of_ble_eq_true rfl, Nat.le_of_ble_eq_true rfl⟩) (rPreV hK hN hP [3, 4, 5, 6, 7, 8] rfl 3 7 rfl rfl) rfl rfl hl.1 rfl (lv_room (Nat.le_of_ble_eq_true rfl)) dX12_needClaim_8 ⟨Nat.zero_le _, Nat.zero_le _⟩) (fun r_1 hr_1 => ?_)
  subst hr_1
  refine lv_if_ne (tgt := 25) hx hb dX12_needClaim_11 (by decide) (fun c_2 => ?_) (fun c_2 => ?_)
  · skip
    have c_2 : (inC n x) = true := bI_1 c_2
    exact W.vret hx hb hr (fun t9 ht hW => ⟨⟨(), rfl, trivial, ⟨by rw [ht]; exact hP, va_K.moved hW.alike hK, hD⟩⟩, hS.F ht⟩) hS.2.2 dX12_needClaim_25 hlocks
  · skip
    have c_2 : (inC n x) = false := bI_0 c_2
    exact absurd hxn (by rw [show inC n x = false by assumption]; decide)

set_option maxHeartbeats 4000000 in
set_option maxRecDepth 100000 in
theorem m_X12_weightOf (l9 : Launch) (D : va_G) (k : Nat → ClassId) (sz : Nat) (o bf pa pn pk sv tr tx li ll ac ci ch : Nat) (iz : Bool) (er fl : Int32) (qs qc qr ql : Nat → Nat) (lim sh sc : Int32) (fr : Nat → UInt32) (n : Nat) (w ly t a : Nat → Int32) (fx : Nat → UInt32) (x : Int32) (hn : n ≤ 10) (hxn : inC n x = true) : Met l9 yX12_weightOf wsX12_weightOf ({ frames := 2, cells := 0, slots := 0, locals := 42 }) (WPc D k [.ref o, .int x] (bRO k o (qs 0) bf pa pn pk sv iz tr tx er fl li ll ac ci ch ++ bSt k qs qc qr ql lim sh sc fr ++ bClaims k qc n w ly t a fx) sz) (WI D k (bRO k o (qs 0) bf pa pn pk sv iz tr tx er fl li ll ac ci ch ++ bSt k qs qc qr ql lim sh sc fr ++ bClaims k qc n w ly t a fx) (w x.toNatClampNeg) (va_A (bRO k o (qs 0) bf pa pn pk sv iz tr tx er fl li ll ac ci ch ++ bSt k qs qc qr ql lim sh sc fr ++ bClaims k qc n w ly t a fx) sz)) 0 0 (va_A (bRO k o (qs 0) bf pa pn pk sv iz tr tx er fl li ll ac ci ch ++ bSt k qs qc qr ql lim sh sc fr ++ bClaims k qc n w ly t a fx) sz) := by
  refine wMet (y := yX12_weightOf) (cc := cX12_weightOf) (maxL := 2) (ret := (some .int)) (Qc := fun A => WI D k (bRO k o (qs 0) bf pa pn pk sv iz tr tx er fl li ll ac ci ch ++ bSt k qs qc qr ql lim sh sc fr ++ bClaims k qc n w ly t a fx) (w x.toNatClampNeg) A) [.ref o, .int x] (by decide) rfl (Nat.le_of_ble_eq_true rfl) ?_
  intro p9 e9 s9 m9 bl9 me9 c9 ls A H hF hr hlocks hP hK hN hD hA hS hl hin
  have hl : lv_has ls 2 [(0, .ref o), (1, .int x)] := hl
  obtain ⟨hx, hb, hml, hown, hts⟩ := id hF
  have k_fieldLink_10 : (Cond.fieldLink RX12 10 "OpinionReactor" "now" "LOpinionReactor$State;").before _ s9 = true := hts (.fieldLink RX12 10 "OpinionReactor" "now" "LOpinionReactor$State;") (by decide +kernel)
  have kc_RX12 : ∀ w ∈ u_ws RX12 TX12 16, w ∈ wsX12_weightOf := by decide +kernel
  have k_fieldLink_85 : (Cond.fieldLink RX12 85 "OpinionReactor$State" "claims" "LOpinionReactor$Claims;").before _ s9 = true := hts (.fieldLink RX12 85 "OpinionReactor$State" "claims" "LOpinionReactor$Claims;") (by decide +kernel)
  have kc_RX11 : ∀ w ∈ u_ws RX11 TX11 7, w ∈ wsX12_weightOf := by decide +kernel
  have k_fieldLink_113 : (Cond.fieldLink RX12 113 "OpinionReactor$Claims" "weights" "[I").before _ s9 = true := hts (.fieldLink RX12 113 "OpinionReactor$Claims" "weights" "[I") (by decide +kernel)
  have kc_RX5 : ∀ w ∈ u_ws RX5 TX5 6, w ∈ wsX12_weightOf := by decide +kernel
  obtain ⟨j, hj, rfl⟩ := inC_of hn hxn
  have clj : (nI j).toNatClampNeg = j := clN (by omega)
  refine lv_aload_n hx hb dX12_weightOf_0 rfl (lv_at hl 0 rfl) ?_
  refine lv_iload_n hx hb dX12_weightOf_1 rfl (lv_at hl 1 rfl) ?_
  have hFc := va_free (wc := bRO k o (qs 0) bf pa pn pk sv iz tr tx er fl li ll ac ci ch ++ bSt k qs qc qr ql lim sh sc fr ++ bClaims k qc n w ly t a fx) hD hS hA [0, 1, 2, 3, 4, 5, 6, 7, 8] rfl
  refine va_callv (va_runV (As := [.int (nI j)]) (rest := []) hF (m_X12_needClaim l9 D k H.size o bf pa pn pk sv tr tx li ll ac ci ch iz er fl qs qc qr ql lim sh sc fr n w ly t a fx (nI j) hxn) (cwV 1 hts gX12_weightOf_X12_needClaim rfl rfl rfl (by decide +kernel) ⟨Nat.le_of_ble_eq_true rfl, Nat.le_of_ble_eq_true rfl⟩) (wPreV hK hN hP hD [0, 1, 2, 3, 4, 5, 6, 7, 8] rfl (by decide) rfl 0 12 rfl rfl) rfl rfl hl.1 rfl (lv_room (Nat.le_of_ble_eq_true rfl)) dX12_weightOf_2 ⟨Nat.zero_le _, Nat.zero_le _⟩) hS (fun q _ h => hFc q h) hFc (fun u9 t9 H1 locs ht hvm hw hB hz1 hk1 hS => ?_)
  obtain ⟨hP, hD⟩ := wjoin (wr := []) (wf := bRO k o (qs 0) bf pa pn pk sv iz tr tx er fl li ll ac ci ch ++ bSt k qs qc qr ql lim sh sc fr ++ bClaims k qc n w ly t a fx) hP hD [0, 1, 2, 3, 4, 5, 6, 7, 8] [] [0, 1, 2, 3, 4, 5, 6, 7, 8] rfl rfl (by decide) (by decide) hk1 hFc hB ht rfl rfl (by decide)
  clear hB hk1 hz1 hvm hFc
  clear ht
  clear t9
  generalize H1 = H at hP hS ⊢
  refine lv_aload_n hx hb dX12_weightOf_5 rfl (lv_at hl 0 rfl) ?_
  refine va_get (D := D) (ci := 12) (v := .ref (qs 0)) (C := RX12) (T := TX12) (N := 16) hx hb hts kc_RX12 hown hK hP 0 rfl rfl 0 (by decide) k_fieldLink_10 (fun _ h9 => h9) rfl dX12_weightOf_6 ?_
  refine va_get (D := D) (ci := 11) (v := .ref (qc 0)) (C := RX11) (T := TX11) (N := 7) hx hb hts kc_RX11 hown hK hP 1 rfl rfl 0 (by decide) k_fieldLink_85 (fun _ h9 => h9) rfl dX12_weightOf_9 ?_
  refine va_get (D := D) (ci := 7) (v := .ref (qc 1)) (C := RX5) (T := TX5) (N := 6) hx hb hts kc_RX5 hown hK hP 3 rfl rfl 1 (by decide) k_fieldLink_113 (fun _ h9 => h9) rfl dX12_weightOf_12 ?_
  refine lv_iload_n hx hb dX12_weightOf_15 rfl (lv_at hl 1 rfl) ?_
  refine ia_ld hx hb hK hP 4 rfl j (by omega) (by decide) dX12_weightOf_16 ?_
  exact W.iret (v := w j) hx hb hr (fun t9 ht hW => ⟨⟨_, (), rfl, (by rw [clj]), ⟨by rw [ht]; exact hP, va_K.moved hW.alike hK, hD⟩⟩, hS.F ht⟩) hS.2.2 dX12_weightOf_17 hlocks

set_option maxHeartbeats 4000000 in
set_option maxRecDepth 100000 in
theorem m_X12_layerOf (l9 : Launch) (D : va_G) (k : Nat → ClassId) (sz : Nat) (o bf pa pn pk sv tr tx li ll ac ci ch : Nat) (iz : Bool) (er fl : Int32) (qs qc qr ql : Nat → Nat) (lim sh sc : Int32) (fr : Nat → UInt32) (n : Nat) (w ly t a : Nat → Int32) (fx : Nat → UInt32) (x : Int32) (hn : n ≤ 10) (hxn : inC n x = true) : Met l9 yX12_layerOf wsX12_layerOf ({ frames := 2, cells := 0, slots := 0, locals := 42 }) (WPc D k [.ref o, .int x] (bRO k o (qs 0) bf pa pn pk sv iz tr tx er fl li ll ac ci ch ++ bSt k qs qc qr ql lim sh sc fr ++ bClaims k qc n w ly t a fx) sz) (WI D k (bRO k o (qs 0) bf pa pn pk sv iz tr tx er fl li ll ac ci ch ++ bSt k qs qc qr ql lim sh sc fr ++ bClaims k qc n w ly t a fx) (ly x.toNatClampNeg) (va_A (bRO k o (qs 0) bf pa pn pk sv iz tr tx er fl li ll ac ci ch ++ bSt k qs qc qr ql lim sh sc fr ++ bClaims k qc n w ly t a fx) sz)) 0 0 (va_A (bRO k o (qs 0) bf pa pn pk sv iz tr tx er fl li ll ac ci ch ++ bSt k qs qc qr ql lim sh sc fr ++ bClaims k qc n w ly t a fx) sz) := by
  refine wMet (y := yX12_layerOf) (cc := cX12_layerOf) (maxL := 2) (ret := (some .int)) (Qc := fun A => WI D k (bRO k o (qs 0) bf pa pn pk sv iz tr tx er fl li ll ac ci ch ++ bSt k qs qc qr ql lim sh sc fr ++ bClaims k qc n w ly t a fx) (ly x.toNatClampNeg) A) [.ref o, .int x] (by decide) rfl (Nat.le_of_ble_eq_true rfl) ?_
  intro p9 e9 s9 m9 bl9 me9 c9 ls A H hF hr hlocks hP hK hN hD hA hS hl hin
  have hl : lv_has ls 2 [(0, .ref o), (1, .int x)] := hl
  obtain ⟨hx, hb, hml, hown, hts⟩ := id hF
  have k_fieldLink_10 : (Cond.fieldLink RX12 10 "OpinionReactor" "now" "LOpinionReactor$State;").before _ s9 = true := hts (.fieldLink RX12 10 "OpinionReactor" "now" "LOpinionReactor$State;") (by decide +kernel)
  have kc_RX12 : ∀ w ∈ u_ws RX12 TX12 16, w ∈ wsX12_layerOf := by decide +kernel
  have k_fieldLink_85 : (Cond.fieldLink RX12 85 "OpinionReactor$State" "claims" "LOpinionReactor$Claims;").before _ s9 = true := hts (.fieldLink RX12 85 "OpinionReactor$State" "claims" "LOpinionReactor$Claims;") (by decide +kernel)
  have kc_RX11 : ∀ w ∈ u_ws RX11 TX11 7, w ∈ wsX12_layerOf := by decide +kernel
  have k_fieldLink_117 : (Cond.fieldLink RX12 117 "OpinionReactor$Claims" "layers" "[I").before _ s9 = true := hts (.fieldLink RX12 117 "OpinionReactor$Claims" "layers" "[I") (by decide +kernel)
  have kc_RX5 : ∀ w ∈ u_ws RX5 TX5 6, w ∈ wsX12_layerOf := by decide +kernel
  obtain ⟨j, hj, rfl⟩ := inC_of hn hxn
  have clj : (nI j).toNatClampNeg = j := clN (by omega)
  refine lv_aload_n hx hb dX12_layerOf_0 rfl (lv_at hl 0 rfl) ?_
  refine lv_iload_n hx hb dX12_layerOf_1 rfl (lv_at hl 1 rfl) ?_
  have hFc := va_free (wc := bRO k o (qs 0) bf pa pn pk sv iz tr tx er fl li ll ac ci ch ++ bSt k qs qc qr ql lim sh sc fr ++ bClaims k qc n w ly t a fx) hD hS hA [0, 1, 2, 3, 4, 5, 6, 7, 8] rfl
  refine va_callv (va_runV (As := [.int (nI j)]) (rest := []) hF (m_X12_needClaim l9 D k H.size o bf pa pn pk sv tr tx li ll ac ci ch iz er fl qs qc qr ql lim sh sc fr n w ly t a fx (nI j) hxn) (cwV 1 hts gX12_layerOf_X12_needClaim rfl rfl rfl (by decide +kernel) ⟨Nat.le_of_ble_eq_true rfl, Nat.le_of_ble_eq_true rfl⟩) (wPreV hK hN hP hD [0, 1, 2, 3, 4, 5, 6, 7, 8] rfl (by decide) rfl 0 12 rfl rfl) rfl rfl hl.1 rfl (lv_room (Nat.le_of_ble_eq_true rfl)) dX12_layerOf_2 ⟨Nat.zero_le _, Nat.zero_le _⟩) hS (fun q _ h => hFc q h) hFc (fun u9 t9 H1 locs ht hvm hw hB hz1 hk1 hS => ?_)
  obtain ⟨hP, hD⟩ := wjoin (wr := []) (wf := bRO k o (qs 0) bf pa pn pk sv iz tr tx er fl li ll ac ci ch ++ bSt k qs qc qr ql lim sh sc fr ++ bClaims k qc n w ly t a fx) hP hD [0, 1, 2, 3, 4, 5, 6, 7, 8] [] [0, 1, 2, 3, 4, 5, 6, 7, 8] rfl rfl (by decide) (by decide) hk1 hFc hB ht rfl rfl (by decide)
  clear hB hk1 hz1 hvm hFc
  clear ht
  clear t9
  generalize H1 = H at hP hS ⊢
  refine lv_aload_n hx hb dX12_layerOf_5 rfl (lv_at hl 0 rfl) ?_
  refine va_get (D := D) (ci := 12) (v := .ref (qs 0)) (C := RX12) (T := TX12) (N := 16) hx hb hts kc_RX12 hown hK hP 0 rfl rfl 0 (by decide) k_fieldLink_10 (fun _ h9 => h9) rfl dX12_layerOf_6 ?_
  refine va_get (D := D) (ci := 11) (v := .ref (qc 0)) (C := RX11) (T := TX11) (N := 7) hx hb hts kc_RX11 hown hK hP 1 rfl rfl 0 (by decide) k_fieldLink_85 (fun _ h9 => h9) rfl dX12_layerOf_9 ?_
  refine va_get (D := D) (ci := 7) (v := .ref (qc 2)) (C := RX5) (T := TX5) (N := 6) hx hb hts kc_RX5 hown hK hP 3 rfl rfl 2 (by decide) k_fieldLink_117 (fun _ h9 => h9) rfl dX12_layerOf_12 ?_
  refine lv_iload_n hx hb dX12_layerOf_15 rfl (lv_at hl 1 rfl) ?_
  refine ia_ld hx hb hK hP 5 rfl j (by omega) (by decide) dX12_layerOf_16 ?_
  exact W.iret (v := ly j) hx hb hr (fun t9 ht hW => ⟨⟨_, (), rfl, (by rw [clj]), ⟨by rw [ht]; exact hP, va_K.moved hW.alike hK, hD⟩⟩, hS.F ht⟩) hS.2.2 dX12_layerOf_17 hlocks

set_option maxHeartbeats 4000000 in
set_option maxRecDepth 100000 in
theorem m_X12_fluxOf (l9 : Launch) (D : va_G) (k : Nat → ClassId) (sz : Nat) (o bf pa pn pk sv tr tx li ll ac ci ch : Nat) (iz : Bool) (er fl : Int32) (qs qc qr ql : Nat → Nat) (lim sh sc : Int32) (fr : Nat → UInt32) (n : Nat) (w ly t a : Nat → Int32) (fx : Nat → UInt32) (x : Int32) (hn : n ≤ 10) (hxn : inC n x = true) : Met l9 yX12_fluxOf wsX12_fluxOf ({ frames := 2, cells := 0, slots := 0, locals := 42 }) (WPc D k [.ref o, .int x] (bRO k o (qs 0) bf pa pn pk sv iz tr tx er fl li ll ac ci ch ++ bSt k qs qc qr ql lim sh sc fr ++ bClaims k qc n w ly t a fx) sz) (WF D k (bRO k o (qs 0) bf pa pn pk sv iz tr tx er fl li ll ac ci ch ++ bSt k qs qc qr ql lim sh sc fr ++ bClaims k qc n w ly t a fx) (fx x.toNatClampNeg) (va_A (bRO k o (qs 0) bf pa pn pk sv iz tr tx er fl li ll ac ci ch ++ bSt k qs qc qr ql lim sh sc fr ++ bClaims k qc n w ly t a fx) sz)) 0 0 (va_A (bRO k o (qs 0) bf pa pn pk sv iz tr tx er fl li ll ac ci ch ++ bSt k qs qc qr ql lim sh sc fr ++ bClaims k qc n w ly t a fx) sz) := by
  refine wMet (y := yX12_fluxOf) (cc := cX12_fluxOf) (maxL := 2) (ret := (some .float)) (Qc := fun A => WF D k (bRO k o (qs 0) bf pa pn pk sv iz tr tx er fl li ll ac ci ch ++ bSt k qs qc qr ql lim sh sc fr ++ bClaims k qc n w ly t a fx) (fx x.toNatClampNeg) A) [.ref o, .int x] (by decide) rfl (Nat.le_of_ble_eq_true rfl) ?_
  intro p9 e9 s9 m9 bl9 me9 c9 ls A H hF hr hlocks hP hK hN hD hA hS hl hin
  have hl : lv_has ls 2 [(0, .ref o), (1, .int x)] := hl
  obtain ⟨hx, hb, hml, hown, hts⟩ := id hF
  have k_fieldLink_10 : (Cond.fieldLink RX12 10 "OpinionReactor" "now" "LOpinionReactor$State;").before _ s9 = true := hts (.fieldLink RX12 10 "OpinionReactor" "now" "LOpinionReactor$State;") (by decide +kernel)
  have kc_RX12 : ∀ w ∈ u_ws RX12 TX12 16, w ∈ wsX12_fluxOf := by decide +kernel
  have k_fieldLink_85 : (Cond.fieldLink RX12 85 "OpinionReactor$State" "claims" "LOpinionReactor$Claims;").before _ s9 = true := hts (.fieldLink RX12 85 "OpinionReactor$State" "claims" "LOpinionReactor$Claims;") (by decide +kernel)
  have kc_RX11 : ∀ w ∈ u_ws RX11 TX11 7, w ∈ wsX12_fluxOf := by decide +kernel
  have k_fieldLink_243 : (Cond.fieldLink RX12 243 "OpinionReactor$Claims" "fluxes" "[F").before _ s9 = true := hts (.fieldLink RX12 243 "OpinionReactor$Claims" "fluxes" "[F") (by decide +kernel)
  have kc_RX5 : ∀ w ∈ u_ws RX5 TX5 6, w ∈ wsX12_fluxOf := by decide +kernel
  obtain ⟨j, hj, rfl⟩ := inC_of hn hxn
  have clj : (nI j).toNatClampNeg = j := clN (by omega)
  refine lv_aload_n hx hb dX12_fluxOf_0 rfl (lv_at hl 0 rfl) ?_
  refine lv_iload_n hx hb dX12_fluxOf_1 rfl (lv_at hl 1 rfl) ?_
  have hFc := va_free (wc := bRO k o (qs 0) bf pa pn pk sv iz tr tx er fl li ll ac ci ch ++ bSt k qs qc qr ql lim sh sc fr ++ bClaims k qc n w ly t a fx) hD hS hA [0, 1, 2, 3, 4, 5, 6, 7, 8] rfl
  refine va_callv (va_runV (As := [.int (nI j)]) (rest := []) hF (m_X12_needClaim l9 D k H.size o bf pa pn pk sv tr tx li ll ac ci ch iz er fl qs qc qr ql lim sh sc fr n w ly t a fx (nI j) hxn) (cwV 1 hts gX12_fluxOf_X12_needClaim rfl rfl rfl (by decide +kernel) ⟨Nat.le_of_ble_eq_true rfl, Nat.le_of_ble_eq_true rfl⟩) (wPreV hK hN hP hD [0, 1, 2, 3, 4, 5, 6, 7, 8] rfl (by decide) rfl 0 12 rfl rfl) rfl rfl hl.1 rfl (lv_room (Nat.le_of_ble_eq_true rfl)) dX12_fluxOf_2 ⟨Nat.zero_le _, Nat.zero_le _⟩) hS (fun q _ h => hFc q h) hFc (fun u9 t9 H1 locs ht hvm hw hB hz1 hk1 hS => ?_)
  obtain ⟨hP, hD⟩ := wjoin (wr := []) (wf := bRO k o (qs 0) bf pa pn pk sv iz tr tx er fl li ll ac ci ch ++ bSt k qs qc qr ql lim sh sc fr ++ bClaims k qc n w ly t a fx) hP hD [0, 1, 2, 3, 4, 5, 6, 7, 8] [] [0, 1, 2, 3, 4, 5, 6, 7, 8] rfl rfl (by decide) (by decide) hk1 hFc hB ht rfl rfl (by decide)
  clear hB hk1 hz1 hvm hFc
  clear ht
  clear t9
  generalize H1 = H at hP hS ⊢
  refine lv_aload_n hx hb dX12_fluxOf_5 rfl (lv_at hl 0 rfl) ?_
  refine va_get (D := D) (ci := 12) (v := .ref (qs 0)) (C := RX12) (T := TX12) (N := 16) hx hb hts kc_RX12 hown hK hP 0 rfl rfl 0 (by decide) k_fieldLink_10 (fun _ h9 => h9) rfl dX12_fluxOf_6 ?_
  refine va_get (D := D) (ci := 11) (v := .ref (qc 0)) (C := RX11) (T := TX11) (N := 7) hx hb hts kc_RX11 hown hK hP 1 rfl rfl 0 (by decide) k_fieldLink_85 (fun _ h9 => h9) rfl dX12_fluxOf_9 ?_
  refine va_get (D := D) (ci := 7) (v := .ref (qc 5)) (C := RX5) (T := TX5) (N := 6) hx hb hts kc_RX5 hown hK hP 3 rfl rfl 5 (by decide) k_fieldLink_243 (fun _ h9 => h9) rfl dX12_fluxOf_12 ?_
  refine lv_iload_n hx hb dX12_fluxOf_15 rfl (lv_at hl 1 rfl) ?_
  refine fa_ld hx hb hK hP 8 rfl j (by omega) (by decide) dX12_fluxOf_16 ?_
  exact W.fret (v := fx j) hx hb hr (fun t9 ht hW => ⟨⟨_, (), rfl, (by rw [clj]), ⟨by rw [ht]; exact hP, va_K.moved hW.alike hK, hD⟩⟩, hS.F ht⟩) hS.2.2 dX12_fluxOf_17 hlocks


set_option maxHeartbeats 4000000 in
set_option maxRecDepth 100000 in
theorem m_X12_attacks (l9 : Launch) (D : va_G) (k : Nat → ClassId) (sz : Nat) (o bf pa pn pk sv tr tx li ll ac ci ch : Nat) (iz : Bool) (er fl : Int32) (qs qc qr ql : Nat → Nat) (lim sh sc : Int32) (fr : Nat → UInt32) (n : Nat) (w ly t a : Nat → Int32) (fx : Nat → UInt32) (x y : Int32) (hn : n ≤ 10) (hxn : inC n x = true) (hiy : inC n y = true) : Met l9 yX12_attacks wsX12_attacks ({ frames := 2, cells := 0, slots := 0, locals := 42 }) (WPc D k [.ref o, .int x, .int y] (bRO k o (qs 0) bf pa pn pk sv iz tr tx er fl li ll ac ci ch ++ bSt k qs qc qr ql lim sh sc fr ++ bClaims k qc n w ly t a fx) sz) (WI D k (bRO k o (qs 0) bf pa pn pk sv iz tr tx er fl li ll ac ci ch ++ bSt k qs qc qr ql lim sh sc fr ++ bClaims k qc n w ly t a fx) (bI (tb (t x.toNatClampNeg) y.toNatClampNeg)) (va_A (bRO k o (qs 0) bf pa pn pk sv iz tr tx er fl li ll ac ci ch ++ bSt k qs qc qr ql lim sh sc fr ++ bClaims k qc n w ly t a fx) sz)) 0 0 (va_A (bRO k o (qs 0) bf pa pn pk sv iz tr tx er fl li ll ac ci ch ++ bSt k qs qc qr ql lim sh sc fr ++ bClaims k qc n w ly t a fx) sz) := by
  refine wMet (y := yX12_attacks) (cc := cX12_attacks) (maxL := 3) (ret := (some .boolean)) (Qc := fun A => WI D k (bRO k o (qs 0) bf pa pn pk sv iz tr tx er fl li ll ac ci ch ++ bSt k qs qc qr ql lim sh sc fr ++ bClaims k qc n w ly t a fx) (bI (tb (t x.toNatClampNeg) y.toNatClampNeg)) A) [.ref o, .int x, .int y] (by decide) rfl (Nat.le_of_ble_eq_true rfl) ?_
  intro p9 e9 s9 m9 bl9 me9 c9 ls A H hF hr hlocks hP hK hN hD hA hS hl hin
  have hl : lv_has ls 3 [(0, .ref o), (1, .int x), (2, .int y)] := hl
  obtain ⟨hx, hb, hml, hown, hts⟩ := id hF
  have k_fieldLink_10 : (Cond.fieldLink RX12 10 "OpinionReactor" "now" "LOpinionReactor$State;").before _ s9 = true := hts (.fieldLink RX12 10 "OpinionReactor" "now" "LOpinionReactor$State;") (by decide +kernel)
  have kc_RX12 : ∀ w ∈ u_ws RX12 TX12 16, w ∈ wsX12_attacks := by decide +kernel
  have k_fieldLink_85 : (Cond.fieldLink RX12 85 "OpinionReactor$State" "claims" "LOpinionReactor$Claims;").before _ s9 = true := hts (.fieldLink RX12 85 "OpinionReactor$State" "claims" "LOpinionReactor$Claims;") (by decide +kernel)
  have kc_RX11 : ∀ w ∈ u_ws RX11 TX11 7, w ∈ wsX12_attacks := by decide +kernel
  have k_fieldLink_120 : (Cond.fieldLink RX12 120 "OpinionReactor$Claims" "targets" "[I").before _ s9 = true := hts (.fieldLink RX12 120 "OpinionReactor$Claims" "targets" "[I") (by decide +kernel)
  have kc_RX5 : ∀ w ∈ u_ws RX5 TX5 6, w ∈ wsX12_attacks := by decide +kernel
  obtain ⟨j, hj, rfl⟩ := inC_of hn hxn
  have clj : (nI j).toNatClampNeg = j := clN (by omega)
  obtain ⟨j2, hj2, rfl⟩ := inC_of hn hiy
  have clj2 : (nI j2).toNatClampNeg = j2 := clN (by omega)
  refine lv_aload_n hx hb dX12_attacks_0 rfl (lv_at hl 0 rfl) ?_
  refine lv_iload_n hx hb dX12_attacks_1 rfl (lv_at hl 1 rfl) ?_
  have hFc := va_free (wc := bRO k o (qs 0) bf pa pn pk sv iz tr tx er fl li ll ac ci ch ++ bSt k qs qc qr ql lim sh sc fr ++ bClaims k qc n w ly t a fx) hD hS hA [0, 1, 2, 3, 4, 5, 6, 7, 8] rfl
  refine va_callv (va_runV (As := [.int (nI j)]) (rest := []) hF (m_X12_needClaim l9 D k H.size o bf pa pn pk sv tr tx li ll ac ci ch iz er fl qs qc qr ql lim sh sc fr n w ly t a fx (nI j) hxn) (cwV 1 hts gX12_attacks_X12_needClaim rfl rfl rfl (by decide +kernel) ⟨Nat.le_of_ble_eq_true rfl, Nat.le_of_ble_eq_true rfl⟩) (wPreV hK hN hP hD [0, 1, 2, 3, 4, 5, 6, 7, 8] rfl (by decide) rfl 0 12 rfl rfl) rfl rfl hl.1 rfl (lv_room (Nat.le_of_ble_eq_true rfl)) dX12_attacks_2 ⟨Nat.zero_le _, Nat.zero_le _⟩) hS (fun q _ h => hFc q h) hFc (fun u9 t9 H1 locs ht hvm hw hB hz1 hk1 hS => ?_)
  obtain ⟨hP, hD⟩ := wjoin (wr := []) (wf := bRO k o (qs 0) bf pa pn pk sv iz tr tx er fl li ll ac ci ch ++ bSt k qs qc qr ql lim sh sc fr ++ bClaims k qc n w ly t a fx) hP hD [0, 1, 2, 3, 4, 5, 6, 7, 8] [] [0, 1, 2, 3, 4, 5, 6, 7, 8] rfl rfl (by decide) (by decide) hk1 hFc hB ht rfl rfl (by decide)
  clear hB hk1 hz1 hvm hFc
  clear ht
  clear t9
  generalize H1 = H at hP hS ⊢
  refine lv_aload_n hx hb dX12_attacks_5 rfl (lv_at hl 0 rfl) ?_
  refine lv_iload_n hx hb dX12_attacks_6 rfl (lv_at hl 2 rfl) ?_
  have hFc := va_free (wc := bRO k o (qs 0) bf pa pn pk sv iz tr tx er fl li ll ac ci ch ++ bSt k qs qc qr ql lim sh sc fr ++ bClaims k qc n w ly t a fx) hD hS hA [0, 1, 2, 3, 4, 5, 6, 7, 8] rfl
  refine va_callv (va_runV (As := [.int (nI j2)]) (rest := []) hF (m_X12_needClaim l9 D k H.size o bf pa pn pk sv tr tx li ll ac ci ch iz er fl qs qc qr ql lim sh sc fr n w ly t a fx (nI j2) hiy) (cwV 1 hts gX12_attacks_X12_needClaim rfl rfl rfl (by decide +kernel) ⟨Nat.le_of_ble_eq_true rfl, Nat.le_of_ble_eq_true rfl⟩) (wPreV hK hN hP hD [0, 1, 2, 3, 4, 5, 6, 7, 8] rfl (by decide) rfl 0 12 rfl rfl) rfl rfl hl.1 rfl (lv_room (Nat.le_of_ble_eq_true rfl)) dX12_attacks_7 ⟨Nat.zero_le _, Nat.zero_le _⟩) hS (fun q _ h => hFc q h) hFc (fun u9 t9 H1 locs ht hvm hw hB hz1 hk1 hS => ?_)
  obtain ⟨hP, hD⟩ := wjoin (wr := []) (wf := bRO k o (qs 0) bf pa pn pk sv iz tr tx er fl li ll ac ci ch ++ bSt k qs qc qr ql lim sh sc fr ++ bClaims k qc n w ly t a fx) hP hD [0, 1, 2, 3, 4, 5, 6, 7, 8] [] [0, 1, 2, 3, 4, 5, 6, 7, 8] rfl rfl (by decide) (by decide) hk1 hFc hB ht rfl rfl (by decide)
  clear hB hk1 hz1 hvm hFc
  clear ht
  clear t9
  generalize H1 = H at hP hS ⊢
  refine lv_aload_n hx hb dX12_attacks_10 rfl (lv_at hl 0 rfl) ?_
  refine va_get (D := D) (ci := 12) (v := .ref (qs 0)) (C := RX12) (T := TX12) (N := 16) hx hb hts kc_RX12 hown hK hP 0 rfl rfl 0 (by decide) k_fieldLink_10 (fun _ h9 => h9) rfl dX12_attacks_11 ?_
  refine va_get (D := D) (ci := 11) (v := .ref (qc 0)) (C := RX11) (T := TX11) (N := 7) hx hb hts kc_RX11 hown hK hP 1 rfl rfl 0 (by decide) k_fieldLink_85 (fun _ h9 => h9) rfl dX12_attacks_14 ?_
  refine va_get (D := D) (ci := 7) (v := .ref (qc 3)) (C := RX5) (T := TX5) (N := 6) hx hb hts kc_RX5 hown hK hP 3 rfl rfl 3 (by decide) k_fieldLink_120 (fun _ h9 => h9) rfl dX12_attacks_17 ?_
  refine lv_iload_n hx hb dX12_attacks_20 rfl (lv_at hl 1 rfl) ?_
  refine ia_ld hx hb hK hP 6 rfl j (by omega) (by decide) dX12_attacks_21 ?_
  refine lv_iload_n hx hb dX12_attacks_22 rfl (lv_at hl 2 rfl) ?_
  refine vp_callSi (W.runS (As := [.int (t j), .int (nI j2)]) (rest := []) hF (m_X12_contains l9 D k (t j) j2 (by omega)) (va_cwS 2 hts gX12_attacks_X12_contains rfl rfl rfl (by decide +kernel) ⟨Nat.le_of_ble_eq_true rfl, Nat.le_of_ble_eq_true rfl⟩) (rPreS hK hN hP [] rfl) rfl rfl hl.1 rfl (lv_room (Nat.le_of_ble_eq_true rfl)) dX12_attacks_23 ⟨Nat.zero_le _, Nat.zero_le _⟩) (fun r_1 hr_1 => ?_)
  subst hr_1
  exact W.zret (v := bI (tb (t j) j2)) hx hb hr (bI_nar _) (fun t9 ht hW => ⟨⟨_, (), rfl, (by rw [clj, clj2]), ⟨by rw [ht]; exact hP, va_K.moved hW.alike hK, hD⟩⟩, hS.F ht⟩) hS.2.2 dX12_attacks_26 hlocks

set_option maxHeartbeats 4000000 in
set_option maxRecDepth 100000 in
theorem m_X12_isRejected (l9 : Launch) (D : va_G) (k : Nat → ClassId) (sz : Nat) (o bf pa pn pk sv tr tx li ll ac ci ch : Nat) (iz : Bool) (er fl : Int32) (qs qc qr ql : Nat → Nat) (lim sh sc : Int32) (fr : Nat → UInt32) (n : Nat) (w ly t a : Nat → Int32) (fx : Nat → UInt32) (x : Int32) (hn : n ≤ 10) (hxn : inC n x = true) : Met l9 yX12_isRejected wsX12_isRejected ({ frames := 6, cells := 0, slots := 0, locals := 131 }) (WPc D k [.ref o, .int x] (bRO k o (qs 0) bf pa pn pk sv iz tr tx er fl li ll ac ci ch ++ bSt k qs qc qr ql lim sh sc fr ++ bClaims k qc n w ly t a fx) sz) (WI D k (bRO k o (qs 0) bf pa pn pk sv iz tr tx er fl li ll ac ci ch ++ bSt k qs qc qr ql lim sh sc fr ++ bClaims k qc n w ly t a fx) (bI (tb (orS n t (accS n t a)) x.toNatClampNeg)) (va_A (bRO k o (qs 0) bf pa pn pk sv iz tr tx er fl li ll ac ci ch ++ bSt k qs qc qr ql lim sh sc fr ++ bClaims k qc n w ly t a fx) sz)) 0 0 (va_A (bRO k o (qs 0) bf pa pn pk sv iz tr tx er fl li ll ac ci ch ++ bSt k qs qc qr ql lim sh sc fr ++ bClaims k qc n w ly t a fx) sz) := by
  refine wMet (y := yX12_isRejected) (cc := cX12_isRejected) (maxL := 2) (ret := (some .boolean)) (Qc := fun A => WI D k (bRO k o (qs 0) bf pa pn pk sv iz tr tx er fl li ll ac ci ch ++ bSt k qs qc qr ql lim sh sc fr ++ bClaims k qc n w ly t a fx) (bI (tb (orS n t (accS n t a)) x.toNatClampNeg)) A) [.ref o, .int x] (by decide) rfl (Nat.le_of_ble_eq_true rfl) ?_
  intro p9 e9 s9 m9 bl9 me9 c9 ls A H hF hr hlocks hP hK hN hD hA hS hl hin
  have hl : lv_has ls 2 [(0, .ref o), (1, .int x)] := hl
  obtain ⟨hx, hb, hml, hown, hts⟩ := id hF
  obtain ⟨j, hj, rfl⟩ := inC_of hn hxn
  have clj : (nI j).toNatClampNeg = j := clN (by omega)
  refine lv_aload_n hx hb dX12_isRejected_0 rfl (lv_at hl 0 rfl) ?_
  refine lv_iload_n hx hb dX12_isRejected_1 rfl (lv_at hl 1 rfl) ?_
  have hFc := va_free (wc := bRO k o (qs 0) bf pa pn pk sv iz tr tx er fl li ll ac ci ch ++ bSt k qs qc qr ql lim sh sc fr ++ bClaims k qc n w ly t a fx) hD hS hA [0, 1, 2, 3, 4, 5, 6, 7, 8] rfl
  refine va_callv (va_runV (As := [.int (nI j)]) (rest := []) hF (m_X12_needClaim l9 D k H.size o bf pa pn pk sv tr tx li ll ac ci ch iz er fl qs qc qr ql lim sh sc fr n w ly t a fx (nI j) hxn) (cwV 1 hts gX12_isRejected_X12_needClaim rfl rfl rfl (by decide +kernel) ⟨Nat.le_of_ble_eq_true rfl, Nat.le_of_ble_eq_true rfl⟩) (wPreV hK hN hP hD [0, 1, 2, 3, 4, 5, 6, 7, 8] rfl (by decide) rfl 0 12 rfl rfl) rfl rfl hl.1 rfl (lv_room (Nat.le_of_ble_eq_true rfl)) dX12_isRejected_2 ⟨Nat.zero_le _, Nat.zero_le _⟩) hS (fun q _ h => hFc q h) hFc (fun u9 t9 H1 locs ht hvm hw hB hz1 hk1 hS => ?_)
  obtain ⟨hP, hD⟩ := wjoin (wr := []) (wf := bRO k o (qs 0) bf pa pn pk sv iz tr tx er fl li ll ac ci ch ++ bSt k qs qc qr ql lim sh sc fr ++ bClaims k qc n w ly t a fx) hP hD [0, 1, 2, 3, 4, 5, 6, 7, 8] [] [0, 1, 2, 3, 4, 5, 6, 7, 8] rfl rfl (by decide) (by decide) hk1 hFc hB ht rfl rfl (by decide)
  clear hB hk1 hz1 hvm hFc
  clear ht
  clear t9
  generalize H1 = H at hP hS ⊢
  refine lv_aload_n hx hb dX12_isRejected_5 rfl (lv_at hl 0 rfl) ?_
  refine vp_callSi (W.runV (As := []) (rest := []) hF (m_X12_rejectedBits l9 D k o bf pa pn pk sv tr tx li ll ac ci ch iz er fl qs qc qr ql lim sh sc fr n w ly t a fx hn) (cwV 0 hts gX12_isRejected_X12_rejectedBits rfl rfl rfl (by decide +kernel) ⟨Nat.le_of_ble_eq_true rfl, Nat.le_of_ble_eq_true rfl⟩) (rPreV hK hN hP [0, 1, 2, 3, 4, 5, 6, 7, 8] rfl 0 12 rfl rfl) rfl rfl hl.1 rfl (lv_room (Nat.le_of_ble_eq_true rfl)) dX12_isRejected_6 ⟨Nat.zero_le _, Nat.zero_le _⟩) (fun r_1 hr_1 => ?_)
  subst hr_1
  refine lv_iload_n hx hb dX12_isRejected_9 rfl (lv_at hl 1 rfl) ?_
  refine vp_callSi (W.runS (As := [.int (orS n t (accS n t a)), .int (nI j)]) (rest := []) hF (m_X12_contains l9 D k (orS n t (accS n t a)) j (by omega)) (va_cwS 2 hts gX12_isRejected_X12_contains rfl rfl rfl (by decide +kernel) ⟨Nat.le_of_ble_eq_true rfl, Nat.le_of_ble_eq_true rfl⟩) (rPreS hK hN hP [] rfl) rfl rfl hl.1 rfl (lv_room (Nat.le_of_ble_eq_true rfl)) dX12_isRejected_10 ⟨Nat.zero_le _, Nat.zero_le _⟩) (fun r_2 hr_2 => ?_)
  subst hr_2
  exact W.zret (v := bI (tb (orS n t (accS n t a)) j)) hx hb hr (bI_nar _) (fun t9 ht hW => ⟨⟨_, (), rfl, (by rw [clj]), ⟨by rw [ht]; exact hP, va_K.moved hW.alike hK, hD⟩⟩, hS.F ht⟩) hS.2.2 dX12_isRejected_13 hlocks

set_option maxHeartbeats 4000000 in
set_option maxRecDepth 100000 in
theorem m_X12_circleSize (l9 : Launch) (D : va_G) (k : Nat → ClassId) (sz : Nat) (o bf pa pn pk sv tr tx li ll ac ci ch : Nat) (iz : Bool) (er fl : Int32) (qs qc qr ql : Nat → Nat) (lim sh sc : Int32) (fr : Nat → UInt32) (n : Nat) (w ly t a : Nat → Int32) (fx : Nat → UInt32) (x : Int32) (hn : n ≤ 10) (hxn : inC n x = true) (hlw : lowB (arS n t a x.toNatClampNeg)) : Met l9 yX12_circleSize wsX12_circleSize ({ frames := 4, cells := 0, slots := 0, locals := 91 }) (WPc D k [.ref o, .int x] (bRO k o (qs 0) bf pa pn pk sv iz tr tx er fl li ll ac ci ch ++ bSt k qs qc qr ql lim sh sc fr ++ bClaims k qc n w ly t a fx) sz) (WI D k (bRO k o (qs 0) bf pa pn pk sv iz tr tx er fl li ll ac ci ch ++ bSt k qs qc qr ql lim sh sc fr ++ bClaims k qc n w ly t a fx) (nI (cn 10 (arS n t a x.toNatClampNeg))) (va_A (bRO k o (qs 0) bf pa pn pk sv iz tr tx er fl li ll ac ci ch ++ bSt k qs qc qr ql lim sh sc fr ++ bClaims k qc n w ly t a fx) sz)) 0 0 (va_A (bRO k o (qs 0) bf pa pn pk sv iz tr tx er fl li ll ac ci ch ++ bSt k qs qc qr ql lim sh sc fr ++ bClaims k qc n w ly t a fx) sz) := by
  refine wMet (y := yX12_circleSize) (cc := cX12_circleSize) (maxL := 2) (ret := (some .int)) (Qc := fun A => WI D k (bRO k o (qs 0) bf pa pn pk sv iz tr tx er fl li ll ac ci ch ++ bSt k qs qc qr ql lim sh sc fr ++ bClaims k qc n w ly t a fx) (nI (cn 10 (arS n t a x.toNatClampNeg))) A) [.ref o, .int x] (by decide) rfl (Nat.le_of_ble_eq_true rfl) ?_
  intro p9 e9 s9 m9 bl9 me9 c9 ls A H hF hr hlocks hP hK hN hD hA hS hl hin
  have hl : lv_has ls 2 [(0, .ref o), (1, .int x)] := hl
  obtain ⟨hx, hb, hml, hown, hts⟩ := id hF
  have k_fieldLink_10 : (Cond.fieldLink RX12 10 "OpinionReactor" "now" "LOpinionReactor$State;").before _ s9 = true := hts (.fieldLink RX12 10 "OpinionReactor" "now" "LOpinionReactor$State;") (by decide +kernel)
  have kc_RX12 : ∀ w ∈ u_ws RX12 TX12 16, w ∈ wsX12_circleSize := by decide +kernel
  have k_fieldLink_85 : (Cond.fieldLink RX12 85 "OpinionReactor$State" "claims" "LOpinionReactor$Claims;").before _ s9 = true := hts (.fieldLink RX12 85 "OpinionReactor$State" "claims" "LOpinionReactor$Claims;") (by decide +kernel)
  have kc_RX11 : ∀ w ∈ u_ws RX11 TX11 7, w ∈ wsX12_circleSize := by decide +kernel
  obtain ⟨j, hj, rfl⟩ := inC_of hn hxn
  have clj : (nI j).toNatClampNeg = j := clN (by omega)
  refine lv_aload_n hx hb dX12_circleSize_0 rfl (lv_at hl 0 rfl) ?_
  refine lv_iload_n hx hb dX12_circleSize_1 rfl (lv_at hl 1 rfl) ?_
  have hFc := va_free (wc := bRO k o (qs 0) bf pa pn pk sv iz tr tx er fl li ll ac ci ch ++ bSt k qs qc qr ql lim sh sc fr ++ bClaims k qc n w ly t a fx) hD hS hA [0, 1, 2, 3, 4, 5, 6, 7, 8] rfl
  refine va_callv (va_runV (As := [.int (nI j)]) (rest := []) hF (m_X12_needClaim l9 D k H.size o bf pa pn pk sv tr tx li ll ac ci ch iz er fl qs qc qr ql lim sh sc fr n w ly t a fx (nI j) hxn) (cwV 1 hts gX12_circleSize_X12_needClaim rfl rfl rfl (by decide +kernel) ⟨Nat.le_of_ble_eq_true rfl, Nat.le_of_ble_eq_true rfl⟩) (wPreV hK hN hP hD [0, 1, 2, 3, 4, 5, 6, 7, 8] rfl (by decide) rfl 0 12 rfl rfl) rfl rfl hl.1 rfl (lv_room (Nat.le_of_ble_eq_true rfl)) dX12_circleSize_2 ⟨Nat.zero_le _, Nat.zero_le _⟩) hS (fun q _ h => hFc q h) hFc (fun u9 t9 H1 locs ht hvm hw hB hz1 hk1 hS => ?_)
  obtain ⟨hP, hD⟩ := wjoin (wr := []) (wf := bRO k o (qs 0) bf pa pn pk sv iz tr tx er fl li ll ac ci ch ++ bSt k qs qc qr ql lim sh sc fr ++ bClaims k qc n w ly t a fx) hP hD [0, 1, 2, 3, 4, 5, 6, 7, 8] [] [0, 1, 2, 3, 4, 5, 6, 7, 8] rfl rfl (by decide) (by decide) hk1 hFc hB ht rfl rfl (by decide)
  clear hB hk1 hz1 hvm hFc
  clear ht
  clear t9
  generalize H1 = H at hP hS ⊢
  refine lv_aload_n hx hb dX12_circleSize_5 rfl (lv_at hl 0 rfl) ?_
  refine va_get (D := D) (ci := 12) (v := .ref (qs 0)) (C := RX12) (T := TX12) (N := 16) hx hb hts kc_RX12 hown hK hP 0 rfl rfl 0 (by decide) k_fieldLink_10 (fun _ h9 => h9) rfl dX12_circleSize_6 ?_
  refine va_get (D := D) (ci := 11) (v := .ref (qc 0)) (C := RX11) (T := TX11) (N := 7) hx hb hts kc_RX11 hown hK hP 1 rfl rfl 0 (by decide) k_fieldLink_85 (fun _ h9 => h9) rfl dX12_circleSize_9 ?_
  refine lv_iload_n hx hb dX12_circleSize_12 rfl (lv_at hl 1 rfl) ?_
  refine vp_callSi (W.runS (As := [.ref (qc 0), .int (nI j)]) (rest := []) hF (m_X4_around l9 D k qc n w ly t a fx j hn (by omega)) (va_cwS 2 hts gX12_circleSize_X4_around rfl rfl rfl (by decide +kernel) ⟨Nat.le_of_ble_eq_true rfl, Nat.le_of_ble_eq_true rfl⟩) (rPreS hK hN hP [3, 4, 5, 6, 7, 8] rfl) rfl rfl hl.1 rfl (lv_room (Nat.le_of_ble_eq_true rfl)) dX12_circleSize_13 ⟨Nat.zero_le _, Nat.zero_le _⟩) (fun r_1 hr_1 => ?_)
  subst hr_1
  refine vp_callSi (W.runS (As := [.int (arS n t a j)]) (rest := []) hF (m_J6_bitCount_0f7a4 l9 D k (arS n t a j) (by rw [clj] at hlw; exact hlw)) (va_cwS 1 hts gX12_circleSize_J6_bitCount_0f7a4 rfl rfl rfl (by decide +kernel) ⟨Nat.le_of_ble_eq_true rfl, Nat.le_of_ble_eq_true rfl⟩) (rPreS hK hN hP [] rfl) rfl rfl hl.1 rfl (lv_room (Nat.le_of_ble_eq_true rfl)) dX12_circleSize_16 ⟨Nat.zero_le _, Nat.zero_le _⟩) (fun r_2 hr_2 => ?_)
  subst hr_2
  exact W.iret (v := nI (cn 10 (arS n t a j))) hx hb hr (fun t9 ht hW => ⟨⟨_, (), rfl, (by rw [clj]), ⟨by rw [ht]; exact hP, va_K.moved hW.alike hK, hD⟩⟩, hS.F ht⟩) hS.2.2 dX12_circleSize_19 hlocks

set_option maxHeartbeats 4000000 in
set_option maxRecDepth 100000 in
theorem m_X12_describeClaim (l9 : Launch) (D : va_G) (k : Nat → ClassId) (sz : Nat) (o bf pa pn pk sv tr tx li ll ac ci ch : Nat) (iz : Bool) (er fl : Int32) (qs qc qr ql : Nat → Nat) (lim sh sc : Int32) (fr : Nat → UInt32) (n : Nat) (w ly t a : Nat → Int32) (fx : Nat → UInt32) (x : Int32) (le : Nat → Int32) (hn : n ≤ 10) (hxn : inC n x = true) : Met l9 yX12_describeClaim wsX12_describeClaim ({ frames := 7, cells := 0, slots := 0, locals := 152 }) (WPc D k [.ref o, .int x] (bRO k o (qs 0) bf pa pn pk sv iz tr tx er fl li ll ac ci ch ++ bSt k qs qc qr ql lim sh sc fr ++ bClaims k qc n w ly t a fx ++ bC19 k li le) sz) (WI D k (bRO k o (qs 0) bf pa pn pk sv iz tr tx er fl li ((dcC n t a le x.toNatClampNeg n).2) ac ci ch ++ bSt k qs qc qr ql lim sh sc fr ++ bClaims k qc n w ly t a fx ++ bC19 k li ((dcC n t a le x.toNatClampNeg n).1)) (nI (dcC n t a le x.toNatClampNeg n).2) (va_A (bRO k o (qs 0) bf pa pn pk sv iz tr tx er fl li ll ac ci ch ++ bSt k qs qc qr ql lim sh sc fr ++ bClaims k qc n w ly t a fx ++ bC19 k li le) sz)) 0 0 (va_A (bRO k o (qs 0) bf pa pn pk sv iz tr tx er fl li ll ac ci ch ++ bSt k qs qc qr ql lim sh sc fr ++ bClaims k qc n w ly t a fx ++ bC19 k li le) sz) := by
  refine wMet (y := yX12_describeClaim) (cc := cX12_describeClaim) (maxL := 3) (ret := (some .int)) (Qc := fun A => WI D k (bRO k o (qs 0) bf pa pn pk sv iz tr tx er fl li ((dcC n t a le x.toNatClampNeg n).2) ac ci ch ++ bSt k qs qc qr ql lim sh sc fr ++ bClaims k qc n w ly t a fx ++ bC19 k li ((dcC n t a le x.toNatClampNeg n).1)) (nI (dcC n t a le x.toNatClampNeg n).2) A) [.ref o, .int x] (by decide) rfl (Nat.le_of_ble_eq_true rfl) ?_
  intro p9 e9 s9 m9 bl9 me9 c9 ls A H hF hr hlocks hP hK hN hD hA hS hl hin
  have hl : lv_has ls 3 [(0, .ref o), (1, .int x)] := hl
  obtain ⟨hx, hb, hml, hown, hts⟩ := id hF
  have k_fieldLink_10 : (Cond.fieldLink RX12 10 "OpinionReactor" "now" "LOpinionReactor$State;").before _ s9 = true := hts (.fieldLink RX12 10 "OpinionReactor" "now" "LOpinionReactor$State;") (by decide +kernel)
  have kc_RX12 : ∀ w ∈ u_ws RX12 TX12 16, w ∈ wsX12_describeClaim := by decide +kernel
  have k_fieldLink_85 : (Cond.fieldLink RX12 85 "OpinionReactor$State" "claims" "LOpinionReactor$Claims;").before _ s9 = true := hts (.fieldLink RX12 85 "OpinionReactor$State" "claims" "LOpinionReactor$Claims;") (by decide +kernel)
  have kc_RX11 : ∀ w ∈ u_ws RX11 TX11 7, w ∈ wsX12_describeClaim := by decide +kernel
  have k_fieldLink_106 : (Cond.fieldLink RX12 106 "OpinionReactor$Claims" "count" "I").before _ s9 = true := hts (.fieldLink RX12 106 "OpinionReactor$Claims" "count" "I") (by decide +kernel)
  have kc_RX5 : ∀ w ∈ u_ws RX5 TX5 6, w ∈ wsX12_describeClaim := by decide +kernel
  have k_fieldLink_57 : (Cond.fieldLink RX12 57 "OpinionReactor" "lineLength" "I").before _ s9 = true := hts (.fieldLink RX12 57 "OpinionReactor" "lineLength" "I") (by decide +kernel)
  have k_fieldLink_120 : (Cond.fieldLink RX12 120 "OpinionReactor$Claims" "targets" "[I").before _ s9 = true := hts (.fieldLink RX12 120 "OpinionReactor$Claims" "targets" "[I") (by decide +kernel)
  have loop_29 : ∀ (fuel : Nat) (i j : Nat), (i ≤ n) → (j < n) → (x.toNatClampNeg = j) → n - i < fuel → ∀ (ls : Array Slot), ∀ (H : Heap) (locs : List Loc), va_P D vwCl (bRO k o (qs 0) bf pa pn pk sv iz tr tx er fl li ((dcC n t a le j i).2) ac ci ch ++ bSt k qs qc qr ql lim sh sc fr ++ bClaims k qc n w ly t a fx ++ bC19 k li ((dcC n t a le j i).1)) H → va_D A (bRO k o (qs 0) bf pa pn pk sv iz tr tx er fl li ((dcC n t a le j i).2) ac ci ch ++ bSt k qs qc qr ql lim sh sc fr ++ bClaims k qc n w ly t a fx ++ bC19 k li ((dcC n t a le j i).1)) → va_S A s9.heap H locs → lv_has ls 3 [(0, .ref o), (1, .int (nI j)), (2, .int (nI i))] → W p9 l9 e9 ({ frames := 7, cells := 0, slots := 0, locals := 152 }) s9 m9 ([.ref o, .int x] : List Value).toArray bl9 me9 c9 H locs 0 0 (MQ bl9 (WI D k (bRO k o (qs 0) bf pa pn pk sv iz tr tx er fl li ((dcC n t a le x.toNatClampNeg n).2) ac ci ch ++ bSt k qs qc qr ql lim sh sc fr ++ bClaims k qc n w ly t a fx ++ bC19 k li ((dcC n t a le x.toNatClampNeg n).1)) (nI (dcC n t a le x.toNatClampNeg n).2) A) ([.ref o, .int x] : List Value).toArray s9 0 0 A) (F0 m9 29 ls []) := by
    intro fuel
    induction fuel with
    | zero => intro i j hi hj hxc hfuel_29; exact absurd hfuel_29 (Nat.not_lt_zero _)
    | succ fuel ih_29 =>
      intro i j hi hj hxc hfuel_29 ls H locs hP hD hS hl
      have hdl := dcC_le n t a le j i
      refine lv_iload_n hx hb dX12_describeClaim_29 rfl (lv_at hl 2 rfl) ?_
      refine lv_aload_n hx hb dX12_describeClaim_30 rfl (lv_at hl 0 rfl) ?_
      refine va_get (D := D) (ci := 12) (v := .ref (qs 0)) (C := RX12) (T := TX12) (N := 16) hx hb hts kc_RX12 hown hK hP 0 rfl rfl 0 (by decide) k_fieldLink_10 (fun _ h9 => h9) rfl dX12_describeClaim_31 ?_
      refine va_get (D := D) (ci := 11) (v := .ref (qc 0)) (C := RX11) (T := TX11) (N := 7) hx hb hts kc_RX11 hown hK hP 1 rfl rfl 0 (by decide) k_fieldLink_85 (fun _ h9 => h9) rfl dX12_describeClaim_34 ?_
      refine va_get (D := D) (ci := 7) (v := .int (nI n)) (C := RX5) (T := TX5) (N := 6) hx hb hts kc_RX5 hown hK hP 3 rfl rfl 0 (by decide) k_fieldLink_106 (fun _ h9 => h9) rfl dX12_describeClaim_37 ?_
      refine lv_icmp_ge (tgt := 76) hx hb dX12_describeClaim_40 (by decide) (fun c_1 => ?_) (fun c_1 => ?_)
      · skip
        have c_1 : n ≤ i := (nI_leI (a := n) (b := i) (by omega) (by omega)).mp c_1
        refine lv_aload_n hx hb dX12_describeClaim_76 rfl (lv_at hl 0 rfl) ?_
        refine va_get (D := D) (ci := 12) (v := .int (nI ((dcC n t a le j i).2))) (C := RX12) (T := TX12) (N := 16) hx hb hts kc_RX12 hown hK hP 0 rfl rfl 12 (by decide) k_fieldLink_57 (fun _ h9 => h9) rfl dX12_describeClaim_77 ?_
        have e_2 : ((dcC n t a le j i).2 : Nat) = (dcC n t a le x.toNatClampNeg n).2 := by first | (with_reducible rfl) | (rw [hxc, show i = n by omega])
        have hP := Eq.mp (congrArg (fun z9 => va_P D vwCl (bRO k o (qs 0) bf pa pn pk sv iz tr tx er fl li z9 ac ci ch ++ bSt k qs qc qr ql lim sh sc fr ++ bClaims k qc n w ly t a fx ++ bC19 k li ((dcC n t a le j i).1)) H) e_2) hP
        have hD := Eq.mp (congrArg (fun z9 => va_D A (bRO k o (qs 0) bf pa pn pk sv iz tr tx er fl li z9 ac ci ch ++ bSt k qs qc qr ql lim sh sc fr ++ bClaims k qc n w ly t a fx ++ bC19 k li ((dcC n t a le j i).1))) e_2) hD
        have e_3 : ((dcC n t a le j i).1 : Nat → Int32) = (dcC n t a le x.toNatClampNeg n).1 := by first | (with_reducible rfl) | (rw [hxc, show i = n by omega])
        have hP := Eq.mp (congrArg (fun z9 => va_P D vwCl (bRO k o (qs 0) bf pa pn pk sv iz tr tx er fl li ((dcC n t a le x.toNatClampNeg n).2) ac ci ch ++ bSt k qs qc qr ql lim sh sc fr ++ bClaims k qc n w ly t a fx ++ bC19 k li z9) H) e_3) hP
        have hD := Eq.mp (congrArg (fun z9 => va_D A (bRO k o (qs 0) bf pa pn pk sv iz tr tx er fl li ((dcC n t a le x.toNatClampNeg n).2) ac ci ch ++ bSt k qs qc qr ql lim sh sc fr ++ bClaims k qc n w ly t a fx ++ bC19 k li z9)) e_3) hD
        exact W.iret (v := nI ((dcC n t a le j i).2)) hx hb hr (fun t9 ht hW => ⟨⟨_, (), rfl, (by rw [hxc, show i = n by omega]), ⟨by rw [ht]; exact hP, va_K.moved hW.alike hK, hD⟩⟩, hS.F ht⟩) hS.2.2 dX12_describeClaim_80 hlocks
      · skip
        have c_1 : ¬ n ≤ i := fun h => c_1 ((nI_leI (a := n) (b := i) (by omega) (by omega)).mpr h)
        refine lv_aload_n hx hb dX12_describeClaim_43 rfl (lv_at hl 0 rfl) ?_
        refine va_get (D := D) (ci := 12) (v := .ref (qs 0)) (C := RX12) (T := TX12) (N := 16) hx hb hts kc_RX12 hown hK hP 0 rfl rfl 0 (by decide) k_fieldLink_10 (fun _ h9 => h9) rfl dX12_describeClaim_44 ?_
        refine va_get (D := D) (ci := 11) (v := .ref (qc 0)) (C := RX11) (T := TX11) (N := 7) hx hb hts kc_RX11 hown hK hP 1 rfl rfl 0 (by decide) k_fieldLink_85 (fun _ h9 => h9) rfl dX12_describeClaim_47 ?_
        refine va_get (D := D) (ci := 7) (v := .ref (qc 3)) (C := RX5) (T := TX5) (N := 6) hx hb hts kc_RX5 hown hK hP 3 rfl rfl 3 (by decide) k_fieldLink_120 (fun _ h9 => h9) rfl dX12_describeClaim_50 ?_
        refine lv_iload_n hx hb dX12_describeClaim_53 rfl (lv_at hl 1 rfl) ?_
        refine ia_ld hx hb hK hP 6 rfl j (by omega) (by decide) dX12_describeClaim_54 ?_
        refine lv_iload_n hx hb dX12_describeClaim_55 rfl (lv_at hl 2 rfl) ?_
        refine vp_callSi (W.runS (As := [.int (t j), .int (nI i)]) (rest := []) hF (m_X12_contains l9 D k (t j) i (by omega)) (va_cwS 2 hts gX12_describeClaim_X12_contains rfl rfl rfl (by decide +kernel) ⟨Nat.le_of_ble_eq_true rfl, Nat.le_of_ble_eq_true rfl⟩) (rPreS hK hN hP [] rfl) rfl rfl hl.1 rfl (lv_room (Nat.le_of_ble_eq_true rfl)) dX12_describeClaim_56 ⟨Nat.zero_le _, Nat.zero_le _⟩) (fun r_4 hr_4 => ?_)
        subst hr_4
        refine lv_if_eq (tgt := 70) hx hb dX12_describeClaim_59 (by decide) (fun c_5 => ?_) (fun c_5 => ?_)
        · skip
          have c_5 : (tb (t j) i) = false := bI_0 c_5
          refine lv_iinc (v := nI (i + 1)) (lv' := [(2, .int (nI (i + 1))), (0, .ref o), (1, .int (nI j))]) hx hb dX12_describeClaim_70 hl (k := 2) rfl (nI_inc i) (by decide) rfl (fun ls hl => ?_)
          refine lv_goto (tgt := 29) hx hb dX12_describeClaim_73 (by decide) ?_
          have e_6 : ((dcC n t a le j i).2 : Nat) = (dcC n t a le j (i + 1)).2 := by first | (with_reducible rfl) | (rw [dcC_s]; (first | rw [if_pos (by assumption)] | rw [if_neg (by assumption)] | (simp [*]; done)); (try rfl))
          have hP := Eq.mp (congrArg (fun z9 => va_P D vwCl (bRO k o (qs 0) bf pa pn pk sv iz tr tx er fl li z9 ac ci ch ++ bSt k qs qc qr ql lim sh sc fr ++ bClaims k qc n w ly t a fx ++ bC19 k li ((dcC n t a le j i).1)) H) e_6) hP
          have hD := Eq.mp (congrArg (fun z9 => va_D A (bRO k o (qs 0) bf pa pn pk sv iz tr tx er fl li z9 ac ci ch ++ bSt k qs qc qr ql lim sh sc fr ++ bClaims k qc n w ly t a fx ++ bC19 k li ((dcC n t a le j i).1))) e_6) hD
          have e_7 : ((dcC n t a le j i).1 : Nat → Int32) = (dcC n t a le j (i + 1)).1 := by first | (with_reducible rfl) | (rw [dcC_s]; (first | rw [if_pos (by assumption)] | rw [if_neg (by assumption)] | (simp [*]; done)); (try rfl))
          have hP := Eq.mp (congrArg (fun z9 => va_P D vwCl (bRO k o (qs 0) bf pa pn pk sv iz tr tx er fl li ((dcC n t a le j (i + 1)).2) ac ci ch ++ bSt k qs qc qr ql lim sh sc fr ++ bClaims k qc n w ly t a fx ++ bC19 k li z9) H) e_7) hP
          have hD := Eq.mp (congrArg (fun z9 => va_D A (bRO k o (qs 0) bf pa pn pk sv iz tr tx er fl li ((dcC n t a le j (i + 1)).2) ac ci ch ++ bSt k qs qc qr ql lim sh sc fr ++ bClaims k qc n w ly t a fx ++ bC19 k li z9)) e_7) hD
          exact ih_29 (i + 1) j (by omega) hj hxc (by omega) ls _ _ hP hD hS (lv_one hl 1 rfl rfl (lv_one hl 2 rfl rfl (lv_one hl 0 rfl rfl (lv_nil hl))))
        · skip
          have c_5 : (tb (t j) i) = true := bI_1 c_5
          refine lv_aload_n hx hb dX12_describeClaim_62 rfl (lv_at hl 0 rfl) ?_
          refine lv_iload_n hx hb dX12_describeClaim_63 rfl (lv_at hl 2 rfl) ?_
          refine vp_callSi (W.runS (As := [.int (nI i)]) (rest := [.ref o]) hF (m_X12_digit l9 D k i ) (va_cwS 1 hts gX12_describeClaim_X12_digit rfl rfl rfl (by decide +kernel) ⟨Nat.le_of_ble_eq_true rfl, Nat.le_of_ble_eq_true rfl⟩) (rPreS hK hN hP [] rfl) rfl rfl hl.1 rfl (lv_room (Nat.le_of_ble_eq_true rfl)) dX12_describeClaim_64 ⟨Nat.zero_le _, Nat.zero_le _⟩) (fun r_8 hr_8 => ?_)
          subst hr_8
          have hFc := va_free (wc := bRO k o (qs 0) bf pa pn pk sv iz tr tx er fl li ((dcC n t a le j i).2) ac ci ch ++ bC19 k li ((dcC n t a le j i).1)) hD hS hA [0, 9] rfl
          refine va_callv (va_runV (As := [.int (dg9 i)]) (rest := []) hF (m_X12_write l9 D k H.size (qs 0) o bf pa pn pk sv tr tx li ((dcC n t a le j i).2) ac ci ch iz er fl ((dcC n t a le j i).1) (dg9 i) hdl (dg_nar (by omega))) (cwV 1 hts gX12_describeClaim_X12_write rfl rfl rfl (by decide +kernel) ⟨Nat.le_of_ble_eq_true rfl, Nat.le_of_ble_eq_true rfl⟩) (wPreV hK hN hP hD [0, 9] rfl (by decide) rfl 0 12 rfl rfl) rfl rfl hl.1 rfl (lv_room (Nat.le_of_ble_eq_true rfl)) dX12_describeClaim_67 ⟨Nat.zero_le _, Nat.zero_le _⟩) hS (fun q _ h => hFc q h) hFc (fun u9 t9 H1 locs ht hvm hw hB hz1 hk1 hS => ?_)
          obtain ⟨hP, hD⟩ := wjoin (wr := bSt k qs qc qr ql lim sh sc fr ++ bClaims k qc n w ly t a fx) (wf := bRO k o (qs 0) bf pa pn pk sv iz tr tx er fl li ((wrC (((dcC n t a le j i).1), ((dcC n t a le j i).2)) (dg9 i)).2) ac ci ch ++ bSt k qs qc qr ql lim sh sc fr ++ bClaims k qc n w ly t a fx ++ bC19 k li ((wrC (((dcC n t a le j i).1), ((dcC n t a le j i).2)) (dg9 i)).1)) hP hD [0, 9] [1, 2, 3, 4, 5, 6, 7, 8] [8, 0, 1, 2, 3, 4, 5, 6, 7, 9] rfl rfl (by decide) (by decide) hk1 hFc hB ht rfl rfl (by decide)
          clear hB hk1 hz1 hvm hFc
          clear ht
          clear t9
          generalize H1 = H at hP hS ⊢
          refine lv_iinc (v := nI (i + 1)) (lv' := [(2, .int (nI (i + 1))), (0, .ref o), (1, .int (nI j))]) hx hb dX12_describeClaim_70 hl (k := 2) rfl (nI_inc i) (by decide) rfl (fun ls hl => ?_)
          refine lv_goto (tgt := 29) hx hb dX12_describeClaim_73 (by decide) ?_
          have e_9 : ((wrC (((dcC n t a le j i).1), ((dcC n t a le j i).2)) (dg9 i)).2 : Nat) = (dcC n t a le j (i + 1)).2 := by first | (with_reducible rfl) | (rw [dcC_s]; (first | rw [if_pos (by assumption)] | rw [if_neg (by assumption)] | (simp [*]; done)); (try rfl))
          have hP := Eq.mp (congrArg (fun z9 => va_P D vwCl (bRO k o (qs 0) bf pa pn pk sv iz tr tx er fl li z9 ac ci ch ++ bSt k qs qc qr ql lim sh sc fr ++ bClaims k qc n w ly t a fx ++ bC19 k li ((wrC (((dcC n t a le j i).1), ((dcC n t a le j i).2)) (dg9 i)).1)) H) e_9) hP
          have hD := Eq.mp (congrArg (fun z9 => va_D A (bRO k o (qs 0) bf pa pn pk sv iz tr tx er fl li z9 ac ci ch ++ bSt k qs qc qr ql lim sh sc fr ++ bClaims k qc n w ly t a fx ++ bC19 k li ((wrC (((dcC n t a le j i).1), ((dcC n t a le j i).2)) (dg9 i)).1))) e_9) hD
          have e_10 : ((wrC (((dcC n t a le j i).1), ((dcC n t a le j i).2)) (dg9 i)).1 : Nat → Int32) = (dcC n t a le j (i + 1)).1 := by first | (with_reducible rfl) | (rw [dcC_s]; (first | rw [if_pos (by assumption)] | rw [if_neg (by assumption)] | (simp [*]; done)); (try rfl))
          have hP := Eq.mp (congrArg (fun z9 => va_P D vwCl (bRO k o (qs 0) bf pa pn pk sv iz tr tx er fl li ((dcC n t a le j (i + 1)).2) ac ci ch ++ bSt k qs qc qr ql lim sh sc fr ++ bClaims k qc n w ly t a fx ++ bC19 k li z9) H) e_10) hP
          have hD := Eq.mp (congrArg (fun z9 => va_D A (bRO k o (qs 0) bf pa pn pk sv iz tr tx er fl li ((dcC n t a le j (i + 1)).2) ac ci ch ++ bSt k qs qc qr ql lim sh sc fr ++ bClaims k qc n w ly t a fx ++ bC19 k li z9)) e_10) hD
          exact ih_29 (i + 1) j (by omega) hj hxc (by omega) ls _ _ hP hD hS (lv_one hl 1 rfl rfl (lv_one hl 2 rfl rfl (lv_one hl 0 rfl rfl (lv_nil hl))))
  obtain ⟨j, hj, rfl⟩ := inC_of hn hxn
  have clj : (nI j).toNatClampNeg = j := clN (by omega)
  refine lv_aload_n hx hb dX12_describeClaim_0 rfl (lv_at hl 0 rfl) ?_
  refine lv_iload_n hx hb dX12_describeClaim_1 rfl (lv_at hl 1 rfl) ?_
  have hFc := va_free (wc := bRO k o (qs 0) bf pa pn pk sv iz tr tx er fl li ll ac ci ch ++ bSt k qs qc qr ql lim sh sc fr ++ bClaims k qc n w ly t a fx) hD hS hA [0, 1, 2, 3, 4, 5, 6, 7, 8] rfl
  refine va_callv (va_runV (As := [.int (nI j)]) (rest := []) hF (m_X12_needClaim l9 D k H.size o bf pa pn pk sv tr tx li ll ac ci ch iz er fl qs qc qr ql lim sh sc fr n w ly t a fx (nI j) hxn) (cwV 1 hts gX12_describeClaim_X12_needClaim rfl rfl rfl (by decide +kernel) ⟨Nat.le_of_ble_eq_true rfl, Nat.le_of_ble_eq_true rfl⟩) (wPreV hK hN hP hD [0, 1, 2, 3, 4, 5, 6, 7, 8] rfl (by decide) rfl 0 12 rfl rfl) rfl rfl hl.1 rfl (lv_room (Nat.le_of_ble_eq_true rfl)) dX12_describeClaim_2 ⟨Nat.zero_le _, Nat.zero_le _⟩) hS (fun q _ h => hFc q h) hFc (fun u9 t9 H1 locs ht hvm hw hB hz1 hk1 hS => ?_)
  obtain ⟨hP, hD⟩ := wjoin (wr := bC19 k li le) (wf := bRO k o (qs 0) bf pa pn pk sv iz tr tx er fl li ll ac ci ch ++ bSt k qs qc qr ql lim sh sc fr ++ bClaims k qc n w ly t a fx ++ bC19 k li le) hP hD [0, 1, 2, 3, 4, 5, 6, 7, 8] [9] [1, 2, 3, 4, 5, 6, 7, 8, 9, 0] rfl rfl (by decide) (by decide) hk1 hFc hB ht rfl rfl (by decide)
  clear hB hk1 hz1 hvm hFc
  clear ht
  clear t9
  generalize H1 = H at hP hS ⊢
  refine lv_aload_n hx hb dX12_describeClaim_5 rfl (lv_at hl 0 rfl) ?_
  refine lv_iconst (v := 0) hx hb dX12_describeClaim_6 (by decide) ?_
  refine va_put (D := D) (ci := 12) (v := .int 0) (ty := .int) (C := RX12) (T := TX12) (N := 16) hx hb hts kc_RX12 tyX12 tyX12_ok nmX12 hown hK hP hD hS 0 rfl rfl 12 (by decide) k_fieldLink_57 (fun _ h9 => h9) rfl (by decide +kernel) rfl rfl (Nat.le_of_ble_eq_true rfl) dX12_describeClaim_7 (fun H locs hP hD hS => ?_)
  have hP : va_P D vwCl (bRO k o (qs 0) bf pa pn pk sv iz tr tx er fl li 0 ac ci ch ++ bSt k qs qc qr ql lim sh sc fr ++ bClaims k qc n w ly t a fx ++ bC19 k li le) H := hP
  have hD : va_D A (bRO k o (qs 0) bf pa pn pk sv iz tr tx er fl li 0 ac ci ch ++ bSt k qs qc qr ql lim sh sc fr ++ bClaims k qc n w ly t a fx ++ bC19 k li le) := hD
  refine lv_aload_n hx hb dX12_describeClaim_10 rfl (lv_at hl 0 rfl) ?_
  refine lv_iload_n hx hb dX12_describeClaim_11 rfl (lv_at hl 1 rfl) ?_
  refine vp_callSi (W.runS (As := [.int (nI j)]) (rest := [.ref o]) hF (m_X12_digit l9 D k j ) (va_cwS 1 hts gX12_describeClaim_X12_digit rfl rfl rfl (by decide +kernel) ⟨Nat.le_of_ble_eq_true rfl, Nat.le_of_ble_eq_true rfl⟩) (rPreS hK hN hP [] rfl) rfl rfl hl.1 rfl (lv_room (Nat.le_of_ble_eq_true rfl)) dX12_describeClaim_12 ⟨Nat.zero_le _, Nat.zero_le _⟩) (fun r_11 hr_11 => ?_)
  subst hr_11
  have hFc := va_free (wc := bRO k o (qs 0) bf pa pn pk sv iz tr tx er fl li 0 ac ci ch ++ bC19 k li le) hD hS hA [0, 9] rfl
  refine va_callv (va_runV (As := [.int (dg9 j)]) (rest := []) hF (m_X12_write l9 D k H.size (qs 0) o bf pa pn pk sv tr tx li 0 ac ci ch iz er fl le (dg9 j) (by omega) (dg_nar (by omega))) (cwV 1 hts gX12_describeClaim_X12_write rfl rfl rfl (by decide +kernel) ⟨Nat.le_of_ble_eq_true rfl, Nat.le_of_ble_eq_true rfl⟩) (wPreV hK hN hP hD [0, 9] rfl (by decide) rfl 0 12 rfl rfl) rfl rfl hl.1 rfl (lv_room (Nat.le_of_ble_eq_true rfl)) dX12_describeClaim_15 ⟨Nat.zero_le _, Nat.zero_le _⟩) hS (fun q _ h => hFc q h) hFc (fun u9 t9 H1 locs ht hvm hw hB hz1 hk1 hS => ?_)
  obtain ⟨hP, hD⟩ := wjoin (wr := bSt k qs qc qr ql lim sh sc fr ++ bClaims k qc n w ly t a fx) (wf := bRO k o (qs 0) bf pa pn pk sv iz tr tx er fl li ((wrC (le, 0) (dg9 j)).2) ac ci ch ++ bSt k qs qc qr ql lim sh sc fr ++ bClaims k qc n w ly t a fx ++ bC19 k li ((wrC (le, 0) (dg9 j)).1)) hP hD [0, 9] [1, 2, 3, 4, 5, 6, 7, 8] [8, 0, 1, 2, 3, 4, 5, 6, 7, 9] rfl rfl (by decide) (by decide) hk1 hFc hB ht rfl rfl (by decide)
  clear hB hk1 hz1 hvm hFc
  clear ht
  clear t9
  generalize H1 = H at hP hS ⊢
  refine lv_aload_n hx hb dX12_describeClaim_18 rfl (lv_at hl 0 rfl) ?_
  refine lv_aload_n hx hb dX12_describeClaim_19 rfl (lv_at hl 0 rfl) ?_
  refine lv_iload_n hx hb dX12_describeClaim_20 rfl (lv_at hl 1 rfl) ?_
  refine vp_callSi (W.runV (As := [.int (nI j)]) (rest := [.ref o]) hF (m_X12_statusSign l9 D k o bf pa pn pk sv tr tx li ((wrC (le, 0) (dg9 j)).2) ac ci ch iz er fl qs qc qr ql lim sh sc fr n w ly t a fx j hn (by omega)) (cwV 1 hts gX12_describeClaim_X12_statusSign rfl rfl rfl (by decide +kernel) ⟨Nat.le_of_ble_eq_true rfl, Nat.le_of_ble_eq_true rfl⟩) (rPreV hK hN hP [0, 1, 2, 3, 4, 5, 6, 7, 8] rfl 0 12 rfl rfl) rfl rfl hl.1 rfl (lv_room (Nat.le_of_ble_eq_true rfl)) dX12_describeClaim_21 ⟨Nat.zero_le _, Nat.zero_le _⟩) (fun r_12 hr_12 => ?_)
  subst hr_12
  have hFc := va_free (wc := bRO k o (qs 0) bf pa pn pk sv iz tr tx er fl li ((wrC (le, 0) (dg9 j)).2) ac ci ch ++ bC19 k li ((wrC (le, 0) (dg9 j)).1)) hD hS hA [0, 9] rfl
  refine va_callv (va_runV (As := [.int (ssS n t a j)]) (rest := []) hF (m_X12_write l9 D k H.size (qs 0) o bf pa pn pk sv tr tx li ((wrC (le, 0) (dg9 j)).2) ac ci ch iz er fl ((wrC (le, 0) (dg9 j)).1) (ssS n t a j) (wrC_le (by show (0 : Nat) ≤ 19; omega) _) (ss_nar _ _ _ _)) (cwV 1 hts gX12_describeClaim_X12_write rfl rfl rfl (by decide +kernel) ⟨Nat.le_of_ble_eq_true rfl, Nat.le_of_ble_eq_true rfl⟩) (wPreV hK hN hP hD [0, 9] rfl (by decide) rfl 0 12 rfl rfl) rfl rfl hl.1 rfl (lv_room (Nat.le_of_ble_eq_true rfl)) dX12_describeClaim_24 ⟨Nat.zero_le _, Nat.zero_le _⟩) hS (fun q _ h => hFc q h) hFc (fun u9 t9 H1 locs ht hvm hw hB hz1 hk1 hS => ?_)
  obtain ⟨hP, hD⟩ := wjoin (wr := bSt k qs qc qr ql lim sh sc fr ++ bClaims k qc n w ly t a fx) (wf := bRO k o (qs 0) bf pa pn pk sv iz tr tx er fl li ((wrC (((wrC (le, 0) (dg9 j)).1), ((wrC (le, 0) (dg9 j)).2)) (ssS n t a j)).2) ac ci ch ++ bSt k qs qc qr ql lim sh sc fr ++ bClaims k qc n w ly t a fx ++ bC19 k li ((wrC (((wrC (le, 0) (dg9 j)).1), ((wrC (le, 0) (dg9 j)).2)) (ssS n t a j)).1)) hP hD [0, 9] [1, 2, 3, 4, 5, 6, 7, 8] [8, 0, 1, 2, 3, 4, 5, 6, 7, 9] rfl rfl (by decide) (by decide) hk1 hFc hB ht rfl rfl (by decide)
  clear hB hk1 hz1 hvm hFc
  clear ht
  clear t9
  generalize H1 = H at hP hS ⊢
  refine lv_iconst (v := 0) hx hb dX12_describeClaim_27 (by decide) ?_
  refine lv_istore_n (lv' := [(2, .int 0), (0, .ref o), (1, .int (nI j))]) hx hb dX12_describeClaim_28 rfl hl (by decide) rfl (fun ls hl => ?_)
  have e_13 : ((wrC (((wrC (le, 0) (dg9 j)).1), ((wrC (le, 0) (dg9 j)).2)) (ssS n t a j)).2 : Nat) = (dcC n t a le j 0).2 := by first | (with_reducible rfl) | (rfl)
  have hP := Eq.mp (congrArg (fun z9 => va_P D vwCl (bRO k o (qs 0) bf pa pn pk sv iz tr tx er fl li z9 ac ci ch ++ bSt k qs qc qr ql lim sh sc fr ++ bClaims k qc n w ly t a fx ++ bC19 k li ((wrC (((wrC (le, 0) (dg9 j)).1), ((wrC (le, 0) (dg9 j)).2)) (ssS n t a j)).1)) H) e_13) hP
  have hD := Eq.mp (congrArg (fun z9 => va_D A (bRO k o (qs 0) bf pa pn pk sv iz tr tx er fl li z9 ac ci ch ++ bSt k qs qc qr ql lim sh sc fr ++ bClaims k qc n w ly t a fx ++ bC19 k li ((wrC (((wrC (le, 0) (dg9 j)).1), ((wrC (le, 0) (dg9 j)).2)) (ssS n t a j)).1))) e_13) hD
  have e_14 : ((wrC (((wrC (le, 0) (dg9 j)).1), ((wrC (le, 0) (dg9 j)).2)) (ssS n t a j)).1 : Nat → Int32) = (dcC n t a le j 0).1 := by first | (with_reducible rfl) | (rfl)
  have hP := Eq.mp (congrArg (fun z9 => va_P D vwCl (bRO k o (qs 0) bf pa pn pk sv iz tr tx er fl li ((dcC n t a le j 0).2) ac ci ch ++ bSt k qs qc qr ql lim sh sc fr ++ bClaims k qc n w ly t a fx ++ bC19 k li z9) H) e_14) hP
  have hD := Eq.mp (congrArg (fun z9 => va_D A (bRO k o (qs 0) bf pa pn pk sv iz tr tx er fl li ((dcC n t a le j 0).2) ac ci ch ++ bSt k qs qc qr ql lim sh sc fr ++ bClaims k qc n w ly t a fx ++ bC19 k li z9)) e_14) hD
  exact loop_29 ((n - 0) + 1) 0 j (by omega) hj clj (Nat.lt_succ_self _) ls _ _ hP hD hS (lv_one hl 1 rfl rfl (lv_one hl 2 rfl rfl (lv_one hl 0 rfl rfl (lv_nil hl))))

set_option maxHeartbeats 4000000 in
set_option maxRecDepth 100000 in
theorem m_X12_describeRacks (l9 : Launch) (D : va_G) (k : Nat → ClassId) (sz : Nat) (o bf pa pn pk sv tr tx li ll ac ci ch : Nat) (iz : Bool) (er fl : Int32) (qs qc qr ql : Nat → Nat) (lim sh sc : Int32) (fr : Nat → UInt32) (kd rk : Nat → Int32) (le : Nat → Int32) (hkd : chOk kd 4) (hrk : chOk rk 12) : Met l9 yX12_describeRacks wsX12_describeRacks ({ frames := 1, cells := 0, slots := 0, locals := 21 }) (WPc D k [.ref o] (bRO k o (qs 0) bf pa pn pk sv iz tr tx er fl li ll ac ci ch ++ bSt k qs qc qr ql lim sh sc fr ++ bRacks k qr kd rk ++ bC19 k li le) sz) (WI D k (bRO k o (qs 0) bf pa pn pk sv iz tr tx er fl li ((drP kd rk le 4).2) ac ci ch ++ bSt k qs qc qr ql lim sh sc fr ++ bRacks k qr kd rk ++ bC19 k li ((drP kd rk le 4).1)) (nI (drP kd rk le 4).2) (va_A (bRO k o (qs 0) bf pa pn pk sv iz tr tx er fl li ll ac ci ch ++ bSt k qs qc qr ql lim sh sc fr ++ bRacks k qr kd rk ++ bC19 k li le) sz)) 0 0 (va_A (bRO k o (qs 0) bf pa pn pk sv iz tr tx er fl li ll ac ci ch ++ bSt k qs qc qr ql lim sh sc fr ++ bRacks k qr kd rk ++ bC19 k li le) sz) := by
  refine wMet (y := yX12_describeRacks) (cc := cX12_describeRacks) (maxL := 3) (ret := (some .int)) (Qc := fun A => WI D k (bRO k o (qs 0) bf pa pn pk sv iz tr tx er fl li ((drP kd rk le 4).2) ac ci ch ++ bSt k qs qc qr ql lim sh sc fr ++ bRacks k qr kd rk ++ bC19 k li ((drP kd rk le 4).1)) (nI (drP kd rk le 4).2) A) [.ref o] (by decide) rfl (Nat.le_of_ble_eq_true rfl) ?_
  intro p9 e9 s9 m9 bl9 me9 c9 ls A H hF hr hlocks hP hK hN hD hA hS hl hin
  have hl : lv_has ls 3 [(0, .ref o)] := hl
  obtain ⟨hx, hb, hml, hown, hts⟩ := id hF
  have k_fieldLink_10 : (Cond.fieldLink RX12 10 "OpinionReactor" "now" "LOpinionReactor$State;").before _ s9 = true := hts (.fieldLink RX12 10 "OpinionReactor" "now" "LOpinionReactor$State;") (by decide +kernel)
  have kc_RX12 : ∀ w ∈ u_ws RX12 TX12 16, w ∈ wsX12_describeRacks := by decide +kernel
  have k_fieldLink_203 : (Cond.fieldLink RX12 203 "OpinionReactor$State" "racks" "LOpinionReactor$Racks;").before _ s9 = true := hts (.fieldLink RX12 203 "OpinionReactor$State" "racks" "LOpinionReactor$Racks;") (by decide +kernel)
  have kc_RX11 : ∀ w ∈ u_ws RX11 TX11 7, w ∈ wsX12_describeRacks := by decide +kernel
  have k_fieldLink_232 : (Cond.fieldLink RX12 232 "OpinionReactor$Racks" "remarks" "[C").before _ s9 = true := hts (.fieldLink RX12 232 "OpinionReactor$Racks" "remarks" "[C") (by decide +kernel)
  have kc_RX10 : ∀ w ∈ u_ws RX10 TX10 2, w ∈ wsX12_describeRacks := by decide +kernel
  have k_fieldLink_57 : (Cond.fieldLink RX12 57 "OpinionReactor" "lineLength" "I").before _ s9 = true := hts (.fieldLink RX12 57 "OpinionReactor" "lineLength" "I") (by decide +kernel)
  have k_fieldLink_371 : (Cond.fieldLink RX12 371 "OpinionReactor$Racks" "kinds" "[C").before _ s9 = true := hts (.fieldLink RX12 371 "OpinionReactor$Racks" "kinds" "[C") (by decide +kernel)
  have loop_7 : ∀ (fuel : Nat) (i : Nat), (i ≤ 4) → 4 - i < fuel → ∀ (ls : Array Slot), ∀ (H : Heap) (locs : List Loc), va_P D vwCl (bRO k o (qs 0) bf pa pn pk sv iz tr tx er fl li ((drP kd rk le i).2) ac ci ch ++ bSt k qs qc qr ql lim sh sc fr ++ bRacks k qr kd rk ++ bC19 k li ((drP kd rk le i).1)) H → va_D A (bRO k o (qs 0) bf pa pn pk sv iz tr tx er fl li ((drP kd rk le i).2) ac ci ch ++ bSt k qs qc qr ql lim sh sc fr ++ bRacks k qr kd rk ++ bC19 k li ((drP kd rk le i).1)) → va_S A s9.heap H locs → lv_has ls 3 [(0, .ref o), (1, .int (nI i))] → W p9 l9 e9 ({ frames := 1, cells := 0, slots := 0, locals := 21 }) s9 m9 ([.ref o] : List Value).toArray bl9 me9 c9 H locs 0 0 (MQ bl9 (WI D k (bRO k o (qs 0) bf pa pn pk sv iz tr tx er fl li ((drP kd rk le 4).2) ac ci ch ++ bSt k qs qc qr ql lim sh sc fr ++ bRacks k qr kd rk ++ bC19 k li ((drP kd rk le 4).1)) (nI (drP kd rk le 4).2) A) ([.ref o] : List Value).toArray s9 0 0 A) (F0 m9 7 ls []) := by
    intro fuel
    induction fuel with
    | zero => intro i hi hfuel_7; exact absurd hfuel_7 (Nat.not_lt_zero _)
    | succ fuel ih_7 =>
      intro i hi hfuel_7 ls H locs hP hD hS hl
      have hdl := drP_le kd rk le i
      have loop_40 : ∀ (fuel : Nat) (u : Nat), (u ≤ 3) → (i < 4) → 3 - u < fuel → ∀ (ls : Array Slot), ∀ (H : Heap) (locs : List Loc), va_P D vwCl (bRO k o (qs 0) bf pa pn pk sv iz tr tx er fl li ((drJ rk i (wrC (drB i (drP kd rk le i)) (kd i)) u).2) ac ci ch ++ bSt k qs qc qr ql lim sh sc fr ++ bRacks k qr kd rk ++ bC19 k li ((drJ rk i (wrC (drB i (drP kd rk le i)) (kd i)) u).1)) H → va_D A (bRO k o (qs 0) bf pa pn pk sv iz tr tx er fl li ((drJ rk i (wrC (drB i (drP kd rk le i)) (kd i)) u).2) ac ci ch ++ bSt k qs qc qr ql lim sh sc fr ++ bRacks k qr kd rk ++ bC19 k li ((drJ rk i (wrC (drB i (drP kd rk le i)) (kd i)) u).1)) → va_S A s9.heap H locs → lv_has ls 3 [(0, .ref o), (1, .int (nI i)), (2, .int (nI u))] → W p9 l9 e9 ({ frames := 1, cells := 0, slots := 0, locals := 21 }) s9 m9 ([.ref o] : List Value).toArray bl9 me9 c9 H locs 0 0 (MQ bl9 (WI D k (bRO k o (qs 0) bf pa pn pk sv iz tr tx er fl li ((drP kd rk le 4).2) ac ci ch ++ bSt k qs qc qr ql lim sh sc fr ++ bRacks k qr kd rk ++ bC19 k li ((drP kd rk le 4).1)) (nI (drP kd rk le 4).2) A) ([.ref o] : List Value).toArray s9 0 0 A) (F0 m9 40 ls []) := by
        intro fuel
        induction fuel with
        | zero => intro u hu hil hfuel_40; exact absurd hfuel_40 (Nat.not_lt_zero _)
        | succ fuel ih_40 =>
          intro u hu hil hfuel_40 ls H locs hP hD hS hl
          have hdm := drJ_le (wrC_le (drB_le hdl i) (kd i)) rk i u
          refine lv_iload_n hx hb dX12_describeRacks_40 rfl (lv_at hl 2 rfl) ?_
          refine lv_iconst (v := 3) hx hb dX12_describeRacks_41 (by decide) ?_
          refine lv_icmp_ge (tgt := 71) hx hb dX12_describeRacks_42 (by decide) (fun c_1 => ?_) (fun c_1 => ?_)
          · skip
            have c_1 : 3 ≤ u := (nI_leI (a := 3) (b := u) (by omega) (by omega)).mp c_1
            refine lv_iinc (v := nI (i + 1)) (lv' := [(1, .int (nI (i + 1))), (0, .ref o), (2, .int (nI u))]) hx hb dX12_describeRacks_71 hl (k := 1) rfl (nI_inc i) (by decide) rfl (fun ls hl => ?_)
            refine lv_goto (tgt := 7) hx hb dX12_describeRacks_74 (by decide) ?_
            have e_2 : ((drJ rk i (wrC (drB i (drP kd rk le i)) (kd i)) u).2 : Nat) = (drP kd rk le (i + 1)).2 := by first | (with_reducible rfl) | (rw [drP_s, show u = 3 by omega])
            have hP := Eq.mp (congrArg (fun z9 => va_P D vwCl (bRO k o (qs 0) bf pa pn pk sv iz tr tx er fl li z9 ac ci ch ++ bSt k qs qc qr ql lim sh sc fr ++ bRacks k qr kd rk ++ bC19 k li ((drJ rk i (wrC (drB i (drP kd rk le i)) (kd i)) u).1)) H) e_2) hP
            have hD := Eq.mp (congrArg (fun z9 => va_D A (bRO k o (qs 0) bf pa pn pk sv iz tr tx er fl li z9 ac ci ch ++ bSt k qs qc qr ql lim sh sc fr ++ bRacks k qr kd rk ++ bC19 k li ((drJ rk i (wrC (drB i (drP kd rk le i)) (kd i)) u).1))) e_2) hD
            have e_3 : ((drJ rk i (wrC (drB i (drP kd rk le i)) (kd i)) u).1 : Nat → Int32) = (drP kd rk le (i + 1)).1 := by first | (with_reducible rfl) | (rw [drP_s, show u = 3 by omega])
            have hP := Eq.mp (congrArg (fun z9 => va_P D vwCl (bRO k o (qs 0) bf pa pn pk sv iz tr tx er fl li ((drP kd rk le (i + 1)).2) ac ci ch ++ bSt k qs qc qr ql lim sh sc fr ++ bRacks k qr kd rk ++ bC19 k li z9) H) e_3) hP
            have hD := Eq.mp (congrArg (fun z9 => va_D A (bRO k o (qs 0) bf pa pn pk sv iz tr tx er fl li ((drP kd rk le (i + 1)).2) ac ci ch ++ bSt k qs qc qr ql lim sh sc fr ++ bRacks k qr kd rk ++ bC19 k li z9)) e_3) hD
            exact ih_7 (i + 1) (by omega) (by omega) ls _ _ hP hD hS (lv_one hl 1 rfl rfl (lv_one hl 0 rfl rfl (lv_nil hl)))
          · skip
            have c_1 : ¬ 3 ≤ u := fun h => c_1 ((nI_leI (a := 3) (b := u) (by omega) (by omega)).mpr h)
            refine lv_aload_n hx hb dX12_describeRacks_45 rfl (lv_at hl 0 rfl) ?_
            refine lv_aload_n hx hb dX12_describeRacks_46 rfl (lv_at hl 0 rfl) ?_
            refine va_get (D := D) (ci := 12) (v := .ref (qs 0)) (C := RX12) (T := TX12) (N := 16) hx hb hts kc_RX12 hown hK hP 0 rfl rfl 0 (by decide) k_fieldLink_10 (fun _ h9 => h9) rfl dX12_describeRacks_47 ?_
            refine va_get (D := D) (ci := 11) (v := .ref (qr 0)) (C := RX11) (T := TX11) (N := 7) hx hb hts kc_RX11 hown hK hP 1 rfl rfl 1 (by decide) k_fieldLink_203 (fun _ h9 => h9) rfl dX12_describeRacks_50 ?_
            refine va_get (D := D) (ci := 10) (v := .ref (qr 2)) (C := RX10) (T := TX10) (N := 2) hx hb hts kc_RX10 hown hK hP 3 rfl rfl 1 (by decide) k_fieldLink_232 (fun _ h9 => h9) rfl dX12_describeRacks_53 ?_
            refine lv_iload_n hx hb dX12_describeRacks_56 rfl (lv_at hl 1 rfl) ?_
            refine lv_iconst (v := 3) hx hb dX12_describeRacks_57 (by decide) ?_
            refine ni_mul hx hb i 3 dX12_describeRacks_58 ?_
            refine lv_iload_n hx hb dX12_describeRacks_59 rfl (lv_at hl 2 rfl) ?_
            refine ni_add hx hb (i * 3) u dX12_describeRacks_60 ?_
            refine ca_ld hx hb hK hP 5 rfl ((i * 3) + u) (by omega) (by decide) dX12_describeRacks_61 ?_
            have hFc := va_free (wc := bRO k o (qs 0) bf pa pn pk sv iz tr tx er fl li ((drJ rk i (wrC (drB i (drP kd rk le i)) (kd i)) u).2) ac ci ch ++ bC19 k li ((drJ rk i (wrC (drB i (drP kd rk le i)) (kd i)) u).1)) hD hS hA [0, 6] rfl
            refine va_callv (va_runV (As := [.int (rk ((i * 3) + u))]) (rest := []) hF (m_X12_write l9 D k H.size (qs 0) o bf pa pn pk sv tr tx li ((drJ rk i (wrC (drB i (drP kd rk le i)) (kd i)) u).2) ac ci ch iz er fl ((drJ rk i (wrC (drB i (drP kd rk le i)) (kd i)) u).1) (rk ((i * 3) + u)) hdm (hrk _ (by omega))) (cwV 1 hts gX12_describeRacks_X12_write rfl rfl rfl (by decide +kernel) ⟨Nat.le_of_ble_eq_true rfl, Nat.le_of_ble_eq_true rfl⟩) (wPreV hK hN hP hD [0, 6] rfl (by decide) rfl 0 12 rfl rfl) rfl rfl hl.1 rfl (lv_room (Nat.le_of_ble_eq_true rfl)) dX12_describeRacks_62 ⟨Nat.zero_le _, Nat.zero_le _⟩) hS (fun q _ h => hFc q h) hFc (fun u9 t9 H1 locs ht hvm hw hB hz1 hk1 hS => ?_)
            obtain ⟨hP, hD⟩ := wjoin (wr := bSt k qs qc qr ql lim sh sc fr ++ bRacks k qr kd rk) (wf := bRO k o (qs 0) bf pa pn pk sv iz tr tx er fl li ((wrC (((drJ rk i (wrC (drB i (drP kd rk le i)) (kd i)) u).1), ((drJ rk i (wrC (drB i (drP kd rk le i)) (kd i)) u).2)) (rk ((i * 3) + u))).2) ac ci ch ++ bSt k qs qc qr ql lim sh sc fr ++ bRacks k qr kd rk ++ bC19 k li ((wrC (((drJ rk i (wrC (drB i (drP kd rk le i)) (kd i)) u).1), ((drJ rk i (wrC (drB i (drP kd rk le i)) (kd i)) u).2)) (rk ((i * 3) + u))).1)) hP hD [0, 6] [1, 2, 3, 4, 5] [5, 0, 1, 2, 3, 4, 6] rfl rfl (by decide) (by decide) hk1 hFc hB ht rfl rfl (by decide)
            clear hB hk1 hz1 hvm hFc
            clear ht
            clear t9
            generalize H1 = H at hP hS ⊢
            refine lv_iinc (v := nI (u + 1)) (lv' := [(2, .int (nI (u + 1))), (0, .ref o), (1, .int (nI i))]) hx hb dX12_describeRacks_65 hl (k := 2) rfl (nI_inc u) (by decide) rfl (fun ls hl => ?_)
            refine lv_goto (tgt := 40) hx hb dX12_describeRacks_68 (by decide) ?_
            have e_4 : ((wrC (((drJ rk i (wrC (drB i (drP kd rk le i)) (kd i)) u).1), ((drJ rk i (wrC (drB i (drP kd rk le i)) (kd i)) u).2)) (rk ((i * 3) + u))).2 : Nat) = (drJ rk i (wrC (drB i (drP kd rk le i)) (kd i)) (u + 1)).2 := by first | (with_reducible rfl) | (rfl)
            have hP := Eq.mp (congrArg (fun z9 => va_P D vwCl (bRO k o (qs 0) bf pa pn pk sv iz tr tx er fl li z9 ac ci ch ++ bSt k qs qc qr ql lim sh sc fr ++ bRacks k qr kd rk ++ bC19 k li ((wrC (((drJ rk i (wrC (drB i (drP kd rk le i)) (kd i)) u).1), ((drJ rk i (wrC (drB i (drP kd rk le i)) (kd i)) u).2)) (rk ((i * 3) + u))).1)) H) e_4) hP
            have hD := Eq.mp (congrArg (fun z9 => va_D A (bRO k o (qs 0) bf pa pn pk sv iz tr tx er fl li z9 ac ci ch ++ bSt k qs qc qr ql lim sh sc fr ++ bRacks k qr kd rk ++ bC19 k li ((wrC (((drJ rk i (wrC (drB i (drP kd rk le i)) (kd i)) u).1), ((drJ rk i (wrC (drB i (drP kd rk le i)) (kd i)) u).2)) (rk ((i * 3) + u))).1))) e_4) hD
            have e_5 : ((wrC (((drJ rk i (wrC (drB i (drP kd rk le i)) (kd i)) u).1), ((drJ rk i (wrC (drB i (drP kd rk le i)) (kd i)) u).2)) (rk ((i * 3) + u))).1 : Nat → Int32) = (drJ rk i (wrC (drB i (drP kd rk le i)) (kd i)) (u + 1)).1 := by first | (with_reducible rfl) | (rfl)
            have hP := Eq.mp (congrArg (fun z9 => va_P D vwCl (bRO k o (qs 0) bf pa pn pk sv iz tr tx er fl li ((drJ rk i (wrC (drB i (drP kd rk le i)) (kd i)) (u + 1)).2) ac ci ch ++ bSt k qs qc qr ql lim sh sc fr ++ bRacks k qr kd rk ++ bC19 k li z9) H) e_5) hP
            have hD := Eq.mp (congrArg (fun z9 => va_D A (bRO k o (qs 0) bf pa pn pk sv iz tr tx er fl li ((drJ rk i (wrC (drB i (drP kd rk le i)) (kd i)) (u + 1)).2) ac ci ch ++ bSt k qs qc qr ql lim sh sc fr ++ bRacks k qr kd rk ++ bC19 k li z9)) e_5) hD
            exact ih_40 (u + 1) (by omega) hil (by omega) ls _ _ hP hD hS (lv_one hl 1 rfl rfl (lv_one hl 2 rfl rfl (lv_one hl 0 rfl rfl (lv_nil hl))))
      refine lv_iload_n hx hb dX12_describeRacks_7 rfl (lv_at hl 1 rfl) ?_
      refine lv_iconst (v := 4) hx hb dX12_describeRacks_8 (by decide) ?_
      refine lv_icmp_ge (tgt := 77) hx hb dX12_describeRacks_9 (by decide) (fun c_6 => ?_) (fun c_6 => ?_)
      · skip
        have c_6 : 4 ≤ i := (nI_leI (a := 4) (b := i) (by omega) (by omega)).mp c_6
        refine lv_aload_n hx hb dX12_describeRacks_77 rfl (lv_at hl 0 rfl) ?_
        refine va_get (D := D) (ci := 12) (v := .int (nI ((drP kd rk le i).2))) (C := RX12) (T := TX12) (N := 16) hx hb hts kc_RX12 hown hK hP 0 rfl rfl 12 (by decide) k_fieldLink_57 (fun _ h9 => h9) rfl dX12_describeRacks_78 ?_
        have e_7 : ((drP kd rk le i).2 : Nat) = (drP kd rk le 4).2 := by first | (with_reducible rfl) | (rw [show i = 4 by omega])
        have hP := Eq.mp (congrArg (fun z9 => va_P D vwCl (bRO k o (qs 0) bf pa pn pk sv iz tr tx er fl li z9 ac ci ch ++ bSt k qs qc qr ql lim sh sc fr ++ bRacks k qr kd rk ++ bC19 k li ((drP kd rk le i).1)) H) e_7) hP
        have hD := Eq.mp (congrArg (fun z9 => va_D A (bRO k o (qs 0) bf pa pn pk sv iz tr tx er fl li z9 ac ci ch ++ bSt k qs qc qr ql lim sh sc fr ++ bRacks k qr kd rk ++ bC19 k li ((drP kd rk le i).1))) e_7) hD
        have e_8 : ((drP kd rk le i).1 : Nat → Int32) = (drP kd rk le 4).1 := by first | (with_reducible rfl) | (rw [show i = 4 by omega])
        have hP := Eq.mp (congrArg (fun z9 => va_P D vwCl (bRO k o (qs 0) bf pa pn pk sv iz tr tx er fl li ((drP kd rk le 4).2) ac ci ch ++ bSt k qs qc qr ql lim sh sc fr ++ bRacks k qr kd rk ++ bC19 k li z9) H) e_8) hP
        have hD := Eq.mp (congrArg (fun z9 => va_D A (bRO k o (qs 0) bf pa pn pk sv iz tr tx er fl li ((drP kd rk le 4).2) ac ci ch ++ bSt k qs qc qr ql lim sh sc fr ++ bRacks k qr kd rk ++ bC19 k li z9)) e_8) hD
        exact W.iret (v := nI ((drP kd rk le i).2)) hx hb hr (fun t9 ht hW => ⟨⟨_, (), rfl, (by rw [show i = 4 by omega]), ⟨by rw [ht]; exact hP, va_K.moved hW.alike hK, hD⟩⟩, hS.F ht⟩) hS.2.2 dX12_describeRacks_81 hlocks
      · skip
        have c_6 : ¬ 4 ≤ i := fun h => c_6 ((nI_leI (a := 4) (b := i) (by omega) (by omega)).mpr h)
        refine lv_iload_n hx hb dX12_describeRacks_12 rfl (lv_at hl 1 rfl) ?_
        refine lv_if_le (tgt := 22) hx hb dX12_describeRacks_13 (by decide) (fun c_9 => ?_) (fun c_9 => ?_)
        · skip
          have c_9 : i ≤ 0 := (nI_leI (a := i) (b := 0) (by omega) (by decide)).mp c_9
          refine lv_aload_n hx hb dX12_describeRacks_22 rfl (lv_at hl 0 rfl) ?_
          refine lv_aload_n hx hb dX12_describeRacks_23 rfl (lv_at hl 0 rfl) ?_
          refine va_get (D := D) (ci := 12) (v := .ref (qs 0)) (C := RX12) (T := TX12) (N := 16) hx hb hts kc_RX12 hown hK hP 0 rfl rfl 0 (by decide) k_fieldLink_10 (fun _ h9 => h9) rfl dX12_describeRacks_24 ?_
          refine va_get (D := D) (ci := 11) (v := .ref (qr 0)) (C := RX11) (T := TX11) (N := 7) hx hb hts kc_RX11 hown hK hP 1 rfl rfl 1 (by decide) k_fieldLink_203 (fun _ h9 => h9) rfl dX12_describeRacks_27 ?_
          refine va_get (D := D) (ci := 10) (v := .ref (qr 1)) (C := RX10) (T := TX10) (N := 2) hx hb hts kc_RX10 hown hK hP 3 rfl rfl 0 (by decide) k_fieldLink_371 (fun _ h9 => h9) rfl dX12_describeRacks_30 ?_
          refine lv_iload_n hx hb dX12_describeRacks_33 rfl (lv_at hl 1 rfl) ?_
          refine ca_ld hx hb hK hP 4 rfl i (by omega) (by decide) dX12_describeRacks_34 ?_
          have hFc := va_free (wc := bRO k o (qs 0) bf pa pn pk sv iz tr tx er fl li ((drP kd rk le i).2) ac ci ch ++ bC19 k li ((drP kd rk le i).1)) hD hS hA [0, 6] rfl
          refine va_callv (va_runV (As := [.int (kd i)]) (rest := []) hF (m_X12_write l9 D k H.size (qs 0) o bf pa pn pk sv tr tx li ((drP kd rk le i).2) ac ci ch iz er fl ((drP kd rk le i).1) (kd i) (by first | exact hdl | exact wrC_le hdl _) (hkd i (by omega))) (cwV 1 hts gX12_describeRacks_X12_write rfl rfl rfl (by decide +kernel) ⟨Nat.le_of_ble_eq_true rfl, Nat.le_of_ble_eq_true rfl⟩) (wPreV hK hN hP hD [0, 6] rfl (by decide) rfl 0 12 rfl rfl) rfl rfl hl.1 rfl (lv_room (Nat.le_of_ble_eq_true rfl)) dX12_describeRacks_35 ⟨Nat.zero_le _, Nat.zero_le _⟩) hS (fun q _ h => hFc q h) hFc (fun u9 t9 H1 locs ht hvm hw hB hz1 hk1 hS => ?_)
          obtain ⟨hP, hD⟩ := wjoin (wr := bSt k qs qc qr ql lim sh sc fr ++ bRacks k qr kd rk) (wf := bRO k o (qs 0) bf pa pn pk sv iz tr tx er fl li ((wrC (((drP kd rk le i).1), ((drP kd rk le i).2)) (kd i)).2) ac ci ch ++ bSt k qs qc qr ql lim sh sc fr ++ bRacks k qr kd rk ++ bC19 k li ((wrC (((drP kd rk le i).1), ((drP kd rk le i).2)) (kd i)).1)) hP hD [0, 6] [1, 2, 3, 4, 5] [5, 0, 1, 2, 3, 4, 6] rfl rfl (by decide) (by decide) hk1 hFc hB ht rfl rfl (by decide)
          clear hB hk1 hz1 hvm hFc
          clear ht
          clear t9
          generalize H1 = H at hP hS ⊢
          refine lv_iconst (v := 0) hx hb dX12_describeRacks_38 (by decide) ?_
          refine lv_istore_n (lv' := [(2, .int 0), (0, .ref o), (1, .int (nI i))]) hx hb dX12_describeRacks_39 rfl hl (by decide) rfl (fun ls hl => ?_)
          have e_10 : ((wrC (((drP kd rk le i).1), ((drP kd rk le i).2)) (kd i)).2 : Nat) = (drJ rk i (wrC (drB i (drP kd rk le i)) (kd i)) 0).2 := by first | (with_reducible rfl) | (unfold drB; rw [if_pos (show i = 0 by omega)]; rfl)
          have hP := Eq.mp (congrArg (fun z9 => va_P D vwCl (bRO k o (qs 0) bf pa pn pk sv iz tr tx er fl li z9 ac ci ch ++ bSt k qs qc qr ql lim sh sc fr ++ bRacks k qr kd rk ++ bC19 k li ((wrC (((drP kd rk le i).1), ((drP kd rk le i).2)) (kd i)).1)) H) e_10) hP
          have hD := Eq.mp (congrArg (fun z9 => va_D A (bRO k o (qs 0) bf pa pn pk sv iz tr tx er fl li z9 ac ci ch ++ bSt k qs qc qr ql lim sh sc fr ++ bRacks k qr kd rk ++ bC19 k li ((wrC (((drP kd rk le i).1), ((drP kd rk le i).2)) (kd i)).1))) e_10) hD
          have e_11 : ((wrC (((drP kd rk le i).1), ((drP kd rk le i).2)) (kd i)).1 : Nat → Int32) = (drJ rk i (wrC (drB i (drP kd rk le i)) (kd i)) 0).1 := by first | (with_reducible rfl) | (unfold drB; rw [if_pos (show i = 0 by omega)]; rfl)
          have hP := Eq.mp (congrArg (fun z9 => va_P D vwCl (bRO k o (qs 0) bf pa pn pk sv iz tr tx er fl li ((drJ rk i (wrC (drB i (drP kd rk le i)) (kd i)) 0).2) ac ci ch ++ bSt k qs qc qr ql lim sh sc fr ++ bRacks k qr kd rk ++ bC19 k li z9) H) e_11) hP
          have hD := Eq.mp (congrArg (fun z9 => va_D A (bRO k o (qs 0) bf pa pn pk sv iz tr tx er fl li ((drJ rk i (wrC (drB i (drP kd rk le i)) (kd i)) 0).2) ac ci ch ++ bSt k qs qc qr ql lim sh sc fr ++ bRacks k qr kd rk ++ bC19 k li z9)) e_11) hD
          exact loop_40 ((3 - 0) + 1) 0 (by omega) (by omega) (Nat.lt_succ_self _) ls _ _ hP hD hS (lv_one hl 1 rfl rfl (lv_one hl 2 rfl rfl (lv_one hl 0 rfl rfl (lv_nil hl))))
        · skip
          have c_9 : ¬ i ≤ 0 := fun h => c_9 ((nI_leI (a := i) (b := 0) (by omega) (by decide)).mpr h)
          refine lv_aload_n hx hb dX12_describeRacks_16 rfl (lv_at hl 0 rfl) ?_
          refine lv_bipush (v := 32) hx hb dX12_describeRacks_17 (by decide) ?_
          have hFc := va_free (wc := bRO k o (qs 0) bf pa pn pk sv iz tr tx er fl li ((drP kd rk le i).2) ac ci ch ++ bC19 k li ((drP kd rk le i).1)) hD hS hA [0, 6] rfl
          refine va_callv (va_runV (As := [.int 32]) (rest := []) hF (m_X12_write l9 D k H.size (qs 0) o bf pa pn pk sv tr tx li ((drP kd rk le i).2) ac ci ch iz er fl ((drP kd rk le i).1) 32 hdl rfl) (cwV 1 hts gX12_describeRacks_X12_write rfl rfl rfl (by decide +kernel) ⟨Nat.le_of_ble_eq_true rfl, Nat.le_of_ble_eq_true rfl⟩) (wPreV hK hN hP hD [0, 6] rfl (by decide) rfl 0 12 rfl rfl) rfl rfl hl.1 rfl (lv_room (Nat.le_of_ble_eq_true rfl)) dX12_describeRacks_19 ⟨Nat.zero_le _, Nat.zero_le _⟩) hS (fun q _ h => hFc q h) hFc (fun u9 t9 H1 locs ht hvm hw hB hz1 hk1 hS => ?_)
          obtain ⟨hP, hD⟩ := wjoin (wr := bSt k qs qc qr ql lim sh sc fr ++ bRacks k qr kd rk) (wf := bRO k o (qs 0) bf pa pn pk sv iz tr tx er fl li ((wrC (((drP kd rk le i).1), ((drP kd rk le i).2)) 32).2) ac ci ch ++ bSt k qs qc qr ql lim sh sc fr ++ bRacks k qr kd rk ++ bC19 k li ((wrC (((drP kd rk le i).1), ((drP kd rk le i).2)) 32).1)) hP hD [0, 6] [1, 2, 3, 4, 5] [5, 0, 1, 2, 3, 4, 6] rfl rfl (by decide) (by decide) hk1 hFc hB ht rfl rfl (by decide)
          clear hB hk1 hz1 hvm hFc
          clear ht
          clear t9
          generalize H1 = H at hP hS ⊢
          refine lv_aload_n hx hb dX12_describeRacks_22 rfl (lv_at hl 0 rfl) ?_
          refine lv_aload_n hx hb dX12_describeRacks_23 rfl (lv_at hl 0 rfl) ?_
          refine va_get (D := D) (ci := 12) (v := .ref (qs 0)) (C := RX12) (T := TX12) (N := 16) hx hb hts kc_RX12 hown hK hP 0 rfl rfl 0 (by decide) k_fieldLink_10 (fun _ h9 => h9) rfl dX12_describeRacks_24 ?_
          refine va_get (D := D) (ci := 11) (v := .ref (qr 0)) (C := RX11) (T := TX11) (N := 7) hx hb hts kc_RX11 hown hK hP 1 rfl rfl 1 (by decide) k_fieldLink_203 (fun _ h9 => h9) rfl dX12_describeRacks_27 ?_
          refine va_get (D := D) (ci := 10) (v := .ref (qr 1)) (C := RX10) (T := TX10) (N := 2) hx hb hts kc_RX10 hown hK hP 3 rfl rfl 0 (by decide) k_fieldLink_371 (fun _ h9 => h9) rfl dX12_describeRacks_30 ?_
          refine lv_iload_n hx hb dX12_describeRacks_33 rfl (lv_at hl 1 rfl) ?_
          refine ca_ld hx hb hK hP 4 rfl i (by omega) (by decide) dX12_describeRacks_34 ?_
          have hFc := va_free (wc := bRO k o (qs 0) bf pa pn pk sv iz tr tx er fl li ((wrC (((drP kd rk le i).1), ((drP kd rk le i).2)) 32).2) ac ci ch ++ bC19 k li ((wrC (((drP kd rk le i).1), ((drP kd rk le i).2)) 32).1)) hD hS hA [0, 6] rfl
          refine va_callv (va_runV (As := [.int (kd i)]) (rest := []) hF (m_X12_write l9 D k H.size (qs 0) o bf pa pn pk sv tr tx li ((wrC (((drP kd rk le i).1), ((drP kd rk le i).2)) 32).2) ac ci ch iz er fl ((wrC (((drP kd rk le i).1), ((drP kd rk le i).2)) 32).1) (kd i) (by first | exact hdl | exact wrC_le hdl _) (hkd i (by omega))) (cwV 1 hts gX12_describeRacks_X12_write rfl rfl rfl (by decide +kernel) ⟨Nat.le_of_ble_eq_true rfl, Nat.le_of_ble_eq_true rfl⟩) (wPreV hK hN hP hD [0, 6] rfl (by decide) rfl 0 12 rfl rfl) rfl rfl hl.1 rfl (lv_room (Nat.le_of_ble_eq_true rfl)) dX12_describeRacks_35 ⟨Nat.zero_le _, Nat.zero_le _⟩) hS (fun q _ h => hFc q h) hFc (fun u9 t9 H1 locs ht hvm hw hB hz1 hk1 hS => ?_)
          obtain ⟨hP, hD⟩ := wjoin (wr := bSt k qs qc qr ql lim sh sc fr ++ bRacks k qr kd rk) (wf := bRO k o (qs 0) bf pa pn pk sv iz tr tx er fl li ((wrC (((wrC (((drP kd rk le i).1), ((drP kd rk le i).2)) 32).1), ((wrC (((drP kd rk le i).1), ((drP kd rk le i).2)) 32).2)) (kd i)).2) ac ci ch ++ bSt k qs qc qr ql lim sh sc fr ++ bRacks k qr kd rk ++ bC19 k li ((wrC (((wrC (((drP kd rk le i).1), ((drP kd rk le i).2)) 32).1), ((wrC (((drP kd rk le i).1), ((drP kd rk le i).2)) 32).2)) (kd i)).1)) hP hD [0, 6] [1, 2, 3, 4, 5] [5, 0, 1, 2, 3, 4, 6] rfl rfl (by decide) (by decide) hk1 hFc hB ht rfl rfl (by decide)
          clear hB hk1 hz1 hvm hFc
          clear ht
          clear t9
          generalize H1 = H at hP hS ⊢
          refine lv_iconst (v := 0) hx hb dX12_describeRacks_38 (by decide) ?_
          refine lv_istore_n (lv' := [(2, .int 0), (0, .ref o), (1, .int (nI i))]) hx hb dX12_describeRacks_39 rfl hl (by decide) rfl (fun ls hl => ?_)
          have e_12 : ((wrC (((wrC (((drP kd rk le i).1), ((drP kd rk le i).2)) 32).1), ((wrC (((drP kd rk le i).1), ((drP kd rk le i).2)) 32).2)) (kd i)).2 : Nat) = (drJ rk i (wrC (drB i (drP kd rk le i)) (kd i)) 0).2 := by first | (with_reducible rfl) | (unfold drB; rw [if_neg (show ¬ i = 0 by omega)]; rfl)
          have hP := Eq.mp (congrArg (fun z9 => va_P D vwCl (bRO k o (qs 0) bf pa pn pk sv iz tr tx er fl li z9 ac ci ch ++ bSt k qs qc qr ql lim sh sc fr ++ bRacks k qr kd rk ++ bC19 k li ((wrC (((wrC (((drP kd rk le i).1), ((drP kd rk le i).2)) 32).1), ((wrC (((drP kd rk le i).1), ((drP kd rk le i).2)) 32).2)) (kd i)).1)) H) e_12) hP
          have hD := Eq.mp (congrArg (fun z9 => va_D A (bRO k o (qs 0) bf pa pn pk sv iz tr tx er fl li z9 ac ci ch ++ bSt k qs qc qr ql lim sh sc fr ++ bRacks k qr kd rk ++ bC19 k li ((wrC (((wrC (((drP kd rk le i).1), ((drP kd rk le i).2)) 32).1), ((wrC (((drP kd rk le i).1), ((drP kd rk le i).2)) 32).2)) (kd i)).1))) e_12) hD
          have e_13 : ((wrC (((wrC (((drP kd rk le i).1), ((drP kd rk le i).2)) 32).1), ((wrC (((drP kd rk le i).1), ((drP kd rk le i).2)) 32).2)) (kd i)).1 : Nat → Int32) = (drJ rk i (wrC (drB i (drP kd rk le i)) (kd i)) 0).1 := by first | (with_reducible rfl) | (unfold drB; rw [if_neg (show ¬ i = 0 by omega)]; rfl)
          have hP := Eq.mp (congrArg (fun z9 => va_P D vwCl (bRO k o (qs 0) bf pa pn pk sv iz tr tx er fl li ((drJ rk i (wrC (drB i (drP kd rk le i)) (kd i)) 0).2) ac ci ch ++ bSt k qs qc qr ql lim sh sc fr ++ bRacks k qr kd rk ++ bC19 k li z9) H) e_13) hP
          have hD := Eq.mp (congrArg (fun z9 => va_D A (bRO k o (qs 0) bf pa pn pk sv iz tr tx er fl li ((drJ rk i (wrC (drB i (drP kd rk le i)) (kd i)) 0).2) ac ci ch ++ bSt k qs qc qr ql lim sh sc fr ++ bRacks k qr kd rk ++ bC19 k li z9)) e_13) hD
          exact loop_40 ((3 - 0) + 1) 0 (by omega) (by omega) (Nat.lt_succ_self _) ls _ _ hP hD hS (lv_one hl 1 rfl rfl (lv_one hl 2 rfl rfl (lv_one hl 0 rfl rfl (lv_nil hl))))
  refine lv_aload_n hx hb dX12_describeRacks_0 rfl (lv_at hl 0 rfl) ?_
  refine lv_iconst (v := 0) hx hb dX12_describeRacks_1 (by decide) ?_
  refine va_put (D := D) (ci := 12) (v := .int 0) (ty := .int) (C := RX12) (T := TX12) (N := 16) hx hb hts kc_RX12 tyX12 tyX12_ok nmX12 hown hK hP hD hS 0 rfl rfl 12 (by decide) k_fieldLink_57 (fun _ h9 => h9) rfl (by decide +kernel) rfl rfl (Nat.le_of_ble_eq_true rfl) dX12_describeRacks_2 (fun H locs hP hD hS => ?_)
  have hP : va_P D vwCl (bRO k o (qs 0) bf pa pn pk sv iz tr tx er fl li 0 ac ci ch ++ bSt k qs qc qr ql lim sh sc fr ++ bRacks k qr kd rk ++ bC19 k li le) H := hP
  have hD : va_D A (bRO k o (qs 0) bf pa pn pk sv iz tr tx er fl li 0 ac ci ch ++ bSt k qs qc qr ql lim sh sc fr ++ bRacks k qr kd rk ++ bC19 k li le) := hD
  refine lv_iconst (v := 0) hx hb dX12_describeRacks_5 (by decide) ?_
  refine lv_istore_n (lv' := [(1, .int 0), (0, .ref o)]) hx hb dX12_describeRacks_6 rfl hl (by decide) rfl (fun ls hl => ?_)
  have e_14 : (0 : Nat) = (drP kd rk le 0).2 := by first | (with_reducible rfl) | (rfl)
  have hP := Eq.mp (congrArg (fun z9 => va_P D vwCl (bRO k o (qs 0) bf pa pn pk sv iz tr tx er fl li z9 ac ci ch ++ bSt k qs qc qr ql lim sh sc fr ++ bRacks k qr kd rk ++ bC19 k li le) H) e_14) hP
  have hD := Eq.mp (congrArg (fun z9 => va_D A (bRO k o (qs 0) bf pa pn pk sv iz tr tx er fl li z9 ac ci ch ++ bSt k qs qc qr ql lim sh sc fr ++ bRacks k qr kd rk ++ bC19 k li le)) e_14) hD
  have e_15 : (le : Nat → Int32) = (drP kd rk le 0).1 := by first | (with_reducible rfl) | (rfl)
  have hP := Eq.mp (congrArg (fun z9 => va_P D vwCl (bRO k o (qs 0) bf pa pn pk sv iz tr tx er fl li ((drP kd rk le 0).2) ac ci ch ++ bSt k qs qc qr ql lim sh sc fr ++ bRacks k qr kd rk ++ bC19 k li z9) H) e_15) hP
  have hD := Eq.mp (congrArg (fun z9 => va_D A (bRO k o (qs 0) bf pa pn pk sv iz tr tx er fl li ((drP kd rk le 0).2) ac ci ch ++ bSt k qs qc qr ql lim sh sc fr ++ bRacks k qr kd rk ++ bC19 k li z9)) e_15) hD
  exact loop_7 ((4 - 0) + 1) 0 (by omega) (Nat.lt_succ_self _) ls _ _ hP hD hS (lv_one hl 1 rfl rfl (lv_one hl 0 rfl rfl (lv_nil hl)))

set_option maxHeartbeats 4000000 in
set_option maxRecDepth 100000 in
theorem m_X12_needEntry (l9 : Launch) (D : va_G) (k : Nat → ClassId) (sz : Nat) (o bf pa pn pk sv tr tx li ll ac ci ch : Nat) (iz : Bool) (er fl : Int32) (qs qc qr ql : Nat → Nat) (lim sh sc : Int32) (fr : Nat → UInt32) (lsh lk : Nat → Int32) (lc lx : Nat) (x : Int32) (hlc : lc ≤ 16) (hxn : inC lc x = true) : Met l9 yX12_needEntry wsX12_needEntry ({ frames := 0, cells := 0, slots := 0, locals := 0 }) (WPc D k [.ref o, .int x] (bRO k o (qs 0) bf pa pn pk sv iz tr tx er fl li ll ac ci ch ++ bSt k qs qc qr ql lim sh sc fr ++ bLog k ql lsh lk lc lx) sz) (WV D k (bRO k o (qs 0) bf pa pn pk sv iz tr tx er fl li ll ac ci ch ++ bSt k qs qc qr ql lim sh sc fr ++ bLog k ql lsh lk lc lx) (va_A (bRO k o (qs 0) bf pa pn pk sv iz tr tx er fl li ll ac ci ch ++ bSt k qs qc qr ql lim sh sc fr ++ bLog k ql lsh lk lc lx) sz)) 0 0 (va_A (bRO k o (qs 0) bf pa pn pk sv iz tr tx er fl li ll ac ci ch ++ bSt k qs qc qr ql lim sh sc fr ++ bLog k ql lsh lk lc lx) sz) := by
  refine wMet (y := yX12_needEntry) (cc := cX12_needEntry) (maxL := 2) (ret := none) (Qc := fun A => WV D k (bRO k o (qs 0) bf pa pn pk sv iz tr tx er fl li ll ac ci ch ++ bSt k qs qc qr ql lim sh sc fr ++ bLog k ql lsh lk lc lx) A) [.ref o, .int x] (by decide) rfl (Nat.le_of_ble_eq_true rfl) ?_
  intro p9 e9 s9 m9 bl9 me9 c9 ls A H hF hr hlocks hP hK hN hD hA hS hl hin
  have hl : lv_has ls 2 [(0, .ref o), (1, .int x)] := hl
  obtain ⟨hx, hb, hml, hown, hts⟩ := id hF
  have k_fieldLink_10 : (Cond.fieldLink RX12 10 "OpinionReactor" "now" "LOpinionReactor$State;").before _ s9 = true := hts (.fieldLink RX12 10 "OpinionReactor" "now" "LOpinionReactor$State;") (by decide +kernel)
  have kc_RX12 : ∀ w ∈ u_ws RX12 TX12 16, w ∈ wsX12_needEntry := by decide +kernel
  have k_fieldLink_291 : (Cond.fieldLink RX12 291 "OpinionReactor$State" "log" "LOpinionReactor$Log;").before _ s9 = true := hts (.fieldLink RX12 291 "OpinionReactor$State" "log" "LOpinionReactor$Log;") (by decide +kernel)
  have kc_RX11 : ∀ w ∈ u_ws RX11 TX11 7, w ∈ wsX12_needEntry := by decide +kernel
  have k_fieldLink_295 : (Cond.fieldLink RX12 295 "OpinionReactor$Log" "count" "I").before _ s9 = true := hts (.fieldLink RX12 295 "OpinionReactor$Log" "count" "I") (by decide +kernel)
  have kc_RX8 : ∀ w ∈ u_ws RX8 TX8 4, w ∈ wsX12_needEntry := by decide +kernel
  obtain ⟨r, hr9, rfl⟩ := inC_of2 (by omega) hxn
  have clj : (nI r).toNatClampNeg = r := clN (by omega)
  refine lv_iload_n hx hb dX12_needEntry_0 rfl (lv_at hl 1 rfl) ?_
  refine lv_if_lt (tgt := 18) hx hb dX12_needEntry_1 (by decide) (fun c_1 => ?_) (fun c_1 => ?_)
  · skip
    exact absurd c_1 (nI_pos (by omega))
  · skip
    refine lv_iload_n hx hb dX12_needEntry_4 rfl (lv_at hl 1 rfl) ?_
    refine lv_aload_n hx hb dX12_needEntry_5 rfl (lv_at hl 0 rfl) ?_
    refine va_get (D := D) (ci := 12) (v := .ref (qs 0)) (C := RX12) (T := TX12) (N := 16) hx hb hts kc_RX12 hown hK hP 0 rfl rfl 0 (by decide) k_fieldLink_10 (fun _ h9 => h9) rfl dX12_needEntry_6 ?_
    refine va_get (D := D) (ci := 11) (v := .ref (ql 0)) (C := RX11) (T := TX11) (N := 7) hx hb hts kc_RX11 hown hK hP 1 rfl rfl 2 (by decide) k_fieldLink_291 (fun _ h9 => h9) rfl dX12_needEntry_9 ?_
    refine va_get (D := D) (ci := 9) (v := .int (nI lc)) (C := RX8) (T := TX8) (N := 4) hx hb hts kc_RX8 hown hK hP 3 rfl rfl 2 (by decide) k_fieldLink_295 (fun _ h9 => h9) rfl dX12_needEntry_12 ?_
    refine lv_icmp_lt (tgt := 29) hx hb dX12_needEntry_15 (by decide) (fun c_2 => ?_) (fun c_2 => ?_)
    · skip
      have c_2 : r < lc := (nI_ltI (a := r) (b := lc) (by omega) (by omega)).mp c_2
      exact W.vret hx hb hr (fun t9 ht hW => ⟨⟨(), rfl, trivial, ⟨by rw [ht]; exact hP, va_K.moved hW.alike hK, hD⟩⟩, hS.F ht⟩) hS.2.2 dX12_needEntry_29 hlocks
    · skip
      have c_2 : ¬ r < lc := fun h => c_2 ((nI_ltI (a := r) (b := lc) (by omega) (by omega)).mpr h)
      exact absurd hr9 (by omega)

set_option maxHeartbeats 4000000 in
set_option maxRecDepth 100000 in
theorem m_X12_logShift (l9 : Launch) (D : va_G) (k : Nat → ClassId) (sz : Nat) (o bf pa pn pk sv tr tx li ll ac ci ch : Nat) (iz : Bool) (er fl : Int32) (qs qc qr ql : Nat → Nat) (lim sh sc : Int32) (fr : Nat → UInt32) (lsh lk : Nat → Int32) (lc lx : Nat) (x : Int32) (hlc : lc ≤ 16) (hlx : lx < 16) (hxn : inC lc x = true) : Met l9 yX12_logShift wsX12_logShift ({ frames := 2, cells := 0, slots := 0, locals := 43 }) (WPc D k [.ref o, .int x] (bRO k o (qs 0) bf pa pn pk sv iz tr tx er fl li ll ac ci ch ++ bSt k qs qc qr ql lim sh sc fr ++ bLog k ql lsh lk lc lx) sz) (WI D k (bRO k o (qs 0) bf pa pn pk sv iz tr tx er fl li ll ac ci ch ++ bSt k qs qc qr ql lim sh sc fr ++ bLog k ql lsh lk lc lx) (lsh ((lx + 15 - x.toNatClampNeg) % 16)) (va_A (bRO k o (qs 0) bf pa pn pk sv iz tr tx er fl li ll ac ci ch ++ bSt k qs qc qr ql lim sh sc fr ++ bLog k ql lsh lk lc lx) sz)) 0 0 (va_A (bRO k o (qs 0) bf pa pn pk sv iz tr tx er fl li ll ac ci ch ++ bSt k qs qc qr ql lim sh sc fr ++ bLog k ql lsh lk lc lx) sz) := by
  refine wMet (y := yX12_logShift) (cc := cX12_logShift) (maxL := 2) (ret := (some .int)) (Qc := fun A => WI D k (bRO k o (qs 0) bf pa pn pk sv iz tr tx er fl li ll ac ci ch ++ bSt k qs qc qr ql lim sh sc fr ++ bLog k ql lsh lk lc lx) (lsh ((lx + 15 - x.toNatClampNeg) % 16)) A) [.ref o, .int x] (by decide) rfl (Nat.le_of_ble_eq_true rfl) ?_
  intro p9 e9 s9 m9 bl9 me9 c9 ls A H hF hr hlocks hP hK hN hD hA hS hl hin
  have hl : lv_has ls 2 [(0, .ref o), (1, .int x)] := hl
  obtain ⟨hx, hb, hml, hown, hts⟩ := id hF
  have k_fieldLink_10 : (Cond.fieldLink RX12 10 "OpinionReactor" "now" "LOpinionReactor$State;").before _ s9 = true := hts (.fieldLink RX12 10 "OpinionReactor" "now" "LOpinionReactor$State;") (by decide +kernel)
  have kc_RX12 : ∀ w ∈ u_ws RX12 TX12 16, w ∈ wsX12_logShift := by decide +kernel
  have k_fieldLink_291 : (Cond.fieldLink RX12 291 "OpinionReactor$State" "log" "LOpinionReactor$Log;").before _ s9 = true := hts (.fieldLink RX12 291 "OpinionReactor$State" "log" "LOpinionReactor$Log;") (by decide +kernel)
  have kc_RX11 : ∀ w ∈ u_ws RX11 TX11 7, w ∈ wsX12_logShift := by decide +kernel
  have k_fieldLink_301 : (Cond.fieldLink RX12 301 "OpinionReactor$Log" "shifts" "[I").before _ s9 = true := hts (.fieldLink RX12 301 "OpinionReactor$Log" "shifts" "[I") (by decide +kernel)
  have kc_RX8 : ∀ w ∈ u_ws RX8 TX8 4, w ∈ wsX12_logShift := by decide +kernel
  obtain ⟨r, hr9, rfl⟩ := inC_of2 (by omega) hxn
  have clj : (nI r).toNatClampNeg = r := clN (by omega)
  refine lv_aload_n hx hb dX12_logShift_0 rfl (lv_at hl 0 rfl) ?_
  refine lv_iload_n hx hb dX12_logShift_1 rfl (lv_at hl 1 rfl) ?_
  have hFc := va_free (wc := bRO k o (qs 0) bf pa pn pk sv iz tr tx er fl li ll ac ci ch ++ bSt k qs qc qr ql lim sh sc fr ++ bLog k ql lsh lk lc lx) hD hS hA [0, 1, 2, 3, 4, 5] rfl
  refine va_callv (va_runV (As := [.int (nI r)]) (rest := []) hF (m_X12_needEntry l9 D k H.size o bf pa pn pk sv tr tx li ll ac ci ch iz er fl qs qc qr ql lim sh sc fr lsh lk lc lx (nI r) hlc hxn) (cwV 1 hts gX12_logShift_X12_needEntry rfl rfl rfl (by decide +kernel) ⟨Nat.le_of_ble_eq_true rfl, Nat.le_of_ble_eq_true rfl⟩) (wPreV hK hN hP hD [0, 1, 2, 3, 4, 5] rfl (by decide) rfl 0 12 rfl rfl) rfl rfl hl.1 rfl (lv_room (Nat.le_of_ble_eq_true rfl)) dX12_logShift_2 ⟨Nat.zero_le _, Nat.zero_le _⟩) hS (fun q _ h => hFc q h) hFc (fun u9 t9 H1 locs ht hvm hw hB hz1 hk1 hS => ?_)
  obtain ⟨hP, hD⟩ := wjoin (wr := []) (wf := bRO k o (qs 0) bf pa pn pk sv iz tr tx er fl li ll ac ci ch ++ bSt k qs qc qr ql lim sh sc fr ++ bLog k ql lsh lk lc lx) hP hD [0, 1, 2, 3, 4, 5] [] [0, 1, 2, 3, 4, 5] rfl rfl (by decide) (by decide) hk1 hFc hB ht rfl rfl (by decide)
  clear hB hk1 hz1 hvm hFc
  clear ht
  clear t9
  generalize H1 = H at hP hS ⊢
  refine lv_aload_n hx hb dX12_logShift_5 rfl (lv_at hl 0 rfl) ?_
  refine va_get (D := D) (ci := 12) (v := .ref (qs 0)) (C := RX12) (T := TX12) (N := 16) hx hb hts kc_RX12 hown hK hP 0 rfl rfl 0 (by decide) k_fieldLink_10 (fun _ h9 => h9) rfl dX12_logShift_6 ?_
  refine va_get (D := D) (ci := 11) (v := .ref (ql 0)) (C := RX11) (T := TX11) (N := 7) hx hb hts kc_RX11 hown hK hP 1 rfl rfl 2 (by decide) k_fieldLink_291 (fun _ h9 => h9) rfl dX12_logShift_9 ?_
  refine va_get (D := D) (ci := 9) (v := .ref (ql 1)) (C := RX8) (T := TX8) (N := 4) hx hb hts kc_RX8 hown hK hP 3 rfl rfl 0 (by decide) k_fieldLink_301 (fun _ h9 => h9) rfl dX12_logShift_12 ?_
  refine lv_aload_n hx hb dX12_logShift_15 rfl (lv_at hl 0 rfl) ?_
  refine va_get (D := D) (ci := 12) (v := .ref (qs 0)) (C := RX12) (T := TX12) (N := 16) hx hb hts kc_RX12 hown hK hP 0 rfl rfl 0 (by decide) k_fieldLink_10 (fun _ h9 => h9) rfl dX12_logShift_16 ?_
  refine va_get (D := D) (ci := 11) (v := .ref (ql 0)) (C := RX11) (T := TX11) (N := 7) hx hb hts kc_RX11 hown hK hP 1 rfl rfl 2 (by decide) k_fieldLink_291 (fun _ h9 => h9) rfl dX12_logShift_19 ?_
  refine lv_iload_n hx hb dX12_logShift_22 rfl (lv_at hl 1 rfl) ?_
  refine vp_callSi (W.runV (As := [.int (nI r)]) (rest := [.ref (ql 1)]) hF (m_X8_place l9 D k ql lsh lk lc lx r hlx (by omega)) (cwV 1 hts gX12_logShift_X8_place rfl rfl rfl (by decide +kernel) ⟨Nat.le_of_ble_eq_true rfl, Nat.le_of_ble_eq_true rfl⟩) (rPreV hK hN hP [3, 4, 5] rfl 3 9 rfl rfl) rfl rfl hl.1 rfl (lv_room (Nat.le_of_ble_eq_true rfl)) dX12_logShift_23 ⟨Nat.zero_le _, Nat.zero_le _⟩) (fun r_1 hr_1 => ?_)
  subst hr_1
  refine ia_ld hx hb hK hP 4 rfl ((lx + 15 - r) % 16) (by omega) (by decide) dX12_logShift_26 ?_
  exact W.iret (v := lsh ((lx + 15 - r) % 16)) hx hb hr (fun t9 ht hW => ⟨⟨_, (), rfl, (by rw [clj]), ⟨by rw [ht]; exact hP, va_K.moved hW.alike hK, hD⟩⟩, hS.F ht⟩) hS.2.2 dX12_logShift_27 hlocks

set_option maxHeartbeats 4000000 in
set_option maxRecDepth 100000 in
theorem m_X12_logKind (l9 : Launch) (D : va_G) (k : Nat → ClassId) (sz : Nat) (o bf pa pn pk sv tr tx li ll ac ci ch : Nat) (iz : Bool) (er fl : Int32) (qs qc qr ql : Nat → Nat) (lim sh sc : Int32) (fr : Nat → UInt32) (lsh lk : Nat → Int32) (lc lx : Nat) (x : Int32) (hlc : lc ≤ 16) (hlx : lx < 16) (hxn : inC lc x = true) (hlk : chOk lk 16) : Met l9 yX12_logKind wsX12_logKind ({ frames := 2, cells := 0, slots := 0, locals := 43 }) (WPc D k [.ref o, .int x] (bRO k o (qs 0) bf pa pn pk sv iz tr tx er fl li ll ac ci ch ++ bSt k qs qc qr ql lim sh sc fr ++ bLog k ql lsh lk lc lx) sz) (WI D k (bRO k o (qs 0) bf pa pn pk sv iz tr tx er fl li ll ac ci ch ++ bSt k qs qc qr ql lim sh sc fr ++ bLog k ql lsh lk lc lx) (lk ((lx + 15 - x.toNatClampNeg) % 16)) (va_A (bRO k o (qs 0) bf pa pn pk sv iz tr tx er fl li ll ac ci ch ++ bSt k qs qc qr ql lim sh sc fr ++ bLog k ql lsh lk lc lx) sz)) 0 0 (va_A (bRO k o (qs 0) bf pa pn pk sv iz tr tx er fl li ll ac ci ch ++ bSt k qs qc qr ql lim sh sc fr ++ bLog k ql lsh lk lc lx) sz) := by
  refine wMet (y := yX12_logKind) (cc := cX12_logKind) (maxL := 2) (ret := (some .char)) (Qc := fun A => WI D k (bRO k o (qs 0) bf pa pn pk sv iz tr tx er fl li ll ac ci ch ++ bSt k qs qc qr ql lim sh sc fr ++ bLog k ql lsh lk lc lx) (lk ((lx + 15 - x.toNatClampNeg) % 16)) A) [.ref o, .int x] (by decide) rfl (Nat.le_of_ble_eq_true rfl) ?_
  intro p9 e9 s9 m9 bl9 me9 c9 ls A H hF hr hlocks hP hK hN hD hA hS hl hin
  have hl : lv_has ls 2 [(0, .ref o), (1, .int x)] := hl
  obtain ⟨hx, hb, hml, hown, hts⟩ := id hF
  have k_fieldLink_10 : (Cond.fieldLink RX12 10 "OpinionReactor" "now" "LOpinionReactor$State;").before _ s9 = true := hts (.fieldLink RX12 10 "OpinionReactor" "now" "LOpinionReactor$State;") (by decide +kernel)
  have kc_RX12 : ∀ w ∈ u_ws RX12 TX12 16, w ∈ wsX12_logKind := by decide +kernel
  have k_fieldLink_291 : (Cond.fieldLink RX12 291 "OpinionReactor$State" "log" "LOpinionReactor$Log;").before _ s9 = true := hts (.fieldLink RX12 291 "OpinionReactor$State" "log" "LOpinionReactor$Log;") (by decide +kernel)
  have kc_RX11 : ∀ w ∈ u_ws RX11 TX11 7, w ∈ wsX12_logKind := by decide +kernel
  have k_fieldLink_306 : (Cond.fieldLink RX12 306 "OpinionReactor$Log" "kinds" "[C").before _ s9 = true := hts (.fieldLink RX12 306 "OpinionReactor$Log" "kinds" "[C") (by decide +kernel)
  have kc_RX8 : ∀ w ∈ u_ws RX8 TX8 4, w ∈ wsX12_logKind := by decide +kernel
  obtain ⟨r, hr9, rfl⟩ := inC_of2 (by omega) hxn
  have clj : (nI r).toNatClampNeg = r := clN (by omega)
  refine lv_aload_n hx hb dX12_logKind_0 rfl (lv_at hl 0 rfl) ?_
  refine lv_iload_n hx hb dX12_logKind_1 rfl (lv_at hl 1 rfl) ?_
  have hFc := va_free (wc := bRO k o (qs 0) bf pa pn pk sv iz tr tx er fl li ll ac ci ch ++ bSt k qs qc qr ql lim sh sc fr ++ bLog k ql lsh lk lc lx) hD hS hA [0, 1, 2, 3, 4, 5] rfl
  refine va_callv (va_runV (As := [.int (nI r)]) (rest := []) hF (m_X12_needEntry l9 D k H.size o bf pa pn pk sv tr tx li ll ac ci ch iz er fl qs qc qr ql lim sh sc fr lsh lk lc lx (nI r) hlc hxn) (cwV 1 hts gX12_logKind_X12_needEntry rfl rfl rfl (by decide +kernel) ⟨Nat.le_of_ble_eq_true rfl, Nat.le_of_ble_eq_true rfl⟩) (wPreV hK hN hP hD [0, 1, 2, 3, 4, 5] rfl (by decide) rfl 0 12 rfl rfl) rfl rfl hl.1 rfl (lv_room (Nat.le_of_ble_eq_true rfl)) dX12_logKind_2 ⟨Nat.zero_le _, Nat.zero_le _⟩) hS (fun q _ h => hFc q h) hFc (fun u9 t9 H1 locs ht hvm hw hB hz1 hk1 hS => ?_)
  obtain ⟨hP, hD⟩ := wjoin (wr := []) (wf := bRO k o (qs 0) bf pa pn pk sv iz tr tx er fl li ll ac ci ch ++ bSt k qs qc qr ql lim sh sc fr ++ bLog k ql lsh lk lc lx) hP hD [0, 1, 2, 3, 4, 5] [] [0, 1, 2, 3, 4, 5] rfl rfl (by decide) (by decide) hk1 hFc hB ht rfl rfl (by decide)
  clear hB hk1 hz1 hvm hFc
  clear ht
  clear t9
  generalize H1 = H at hP hS ⊢
  refine lv_aload_n hx hb dX12_logKind_5 rfl (lv_at hl 0 rfl) ?_
  refine va_get (D := D) (ci := 12) (v := .ref (qs 0)) (C := RX12) (T := TX12) (N := 16) hx hb hts kc_RX12 hown hK hP 0 rfl rfl 0 (by decide) k_fieldLink_10 (fun _ h9 => h9) rfl dX12_logKind_6 ?_
  refine va_get (D := D) (ci := 11) (v := .ref (ql 0)) (C := RX11) (T := TX11) (N := 7) hx hb hts kc_RX11 hown hK hP 1 rfl rfl 2 (by decide) k_fieldLink_291 (fun _ h9 => h9) rfl dX12_logKind_9 ?_
  refine va_get (D := D) (ci := 9) (v := .ref (ql 2)) (C := RX8) (T := TX8) (N := 4) hx hb hts kc_RX8 hown hK hP 3 rfl rfl 1 (by decide) k_fieldLink_306 (fun _ h9 => h9) rfl dX12_logKind_12 ?_
  refine lv_aload_n hx hb dX12_logKind_15 rfl (lv_at hl 0 rfl) ?_
  refine va_get (D := D) (ci := 12) (v := .ref (qs 0)) (C := RX12) (T := TX12) (N := 16) hx hb hts kc_RX12 hown hK hP 0 rfl rfl 0 (by decide) k_fieldLink_10 (fun _ h9 => h9) rfl dX12_logKind_16 ?_
  refine va_get (D := D) (ci := 11) (v := .ref (ql 0)) (C := RX11) (T := TX11) (N := 7) hx hb hts kc_RX11 hown hK hP 1 rfl rfl 2 (by decide) k_fieldLink_291 (fun _ h9 => h9) rfl dX12_logKind_19 ?_
  refine lv_iload_n hx hb dX12_logKind_22 rfl (lv_at hl 1 rfl) ?_
  refine vp_callSi (W.runV (As := [.int (nI r)]) (rest := [.ref (ql 2)]) hF (m_X8_place l9 D k ql lsh lk lc lx r hlx (by omega)) (cwV 1 hts gX12_logKind_X8_place rfl rfl rfl (by decide +kernel) ⟨Nat.le_of_ble_eq_true rfl, Nat.le_of_ble_eq_true rfl⟩) (rPreV hK hN hP [3, 4, 5] rfl 3 9 rfl rfl) rfl rfl hl.1 rfl (lv_room (Nat.le_of_ble_eq_true rfl)) dX12_logKind_23 ⟨Nat.zero_le _, Nat.zero_le _⟩) (fun r_1 hr_1 => ?_)
  subst hr_1
  refine ca_ld hx hb hK hP 5 rfl ((lx + 15 - r) % 16) (by omega) (by decide) dX12_logKind_26 ?_
  exact W.zret (v := lk ((lx + 15 - r) % 16)) hx hb hr (congrArg Value.int (hlk ((lx + 15 - r) % 16) (by omega))) (fun t9 ht hW => ⟨⟨_, (), rfl, (by rw [clj]), ⟨by rw [ht]; exact hP, va_K.moved hW.alike hK, hD⟩⟩, hS.F ht⟩) hS.2.2 dX12_logKind_27 hlocks

set_option maxHeartbeats 4000000 in
set_option maxRecDepth 100000 in
theorem m_X12_meanWeight (l9 : Launch) (D : va_G) (k : Nat → ClassId) (o bf pa pn pk sv tr tx li ll ac ci ch : Nat) (iz : Bool) (er fl : Int32) (qs qc qr ql : Nat → Nat) (lim sh sc : Int32) (fr : Nat → UInt32) (n : Nat) (w ly t a : Nat → Int32) (fx : Nat → UInt32) (hn : n ≤ 10) (hw : wtOk n w) (h1 : 1 ≤ n) : Met l9 yX12_meanWeight wsX12_meanWeight ({ frames := 2, cells := 0, slots := 0, locals := 44 }) (RPc D k [.ref o] (bRO k o (qs 0) bf pa pn pk sv iz tr tx er fl li ll ac ci ch ++ bSt k qs qc qr ql lim sh sc fr ++ bClaims k qc n w ly t a fx)) (ED (mnS n w)) 0 0 noA := by
  refine rMet (y := yX12_meanWeight) (cc := cX12_meanWeight) (maxL := 2) (ret := (some .double)) [.ref o] (by decide) rfl (Nat.le_of_ble_eq_true rfl) ?_
  intro p9 e9 s9 m9 bl9 me9 c9 ls hF hr hlocks hP hK hN hl
  have hl : lv_has ls 2 [(0, .ref o)] := hl
  obtain ⟨hx, hb, hml, hown, hts⟩ := id hF
  have k_fieldLink_10 : (Cond.fieldLink RX12 10 "OpinionReactor" "now" "LOpinionReactor$State;").before _ s9 = true := hts (.fieldLink RX12 10 "OpinionReactor" "now" "LOpinionReactor$State;") (by decide +kernel)
  have kc_RX12 : ∀ w ∈ u_ws RX12 TX12 16, w ∈ wsX12_meanWeight := by decide +kernel
  have k_fieldLink_85 : (Cond.fieldLink RX12 85 "OpinionReactor$State" "claims" "LOpinionReactor$Claims;").before _ s9 = true := hts (.fieldLink RX12 85 "OpinionReactor$State" "claims" "LOpinionReactor$Claims;") (by decide +kernel)
  have kc_RX11 : ∀ w ∈ u_ws RX11 TX11 7, w ∈ wsX12_meanWeight := by decide +kernel
  have k_fieldLink_106 : (Cond.fieldLink RX12 106 "OpinionReactor$Claims" "count" "I").before _ s9 = true := hts (.fieldLink RX12 106 "OpinionReactor$Claims" "count" "I") (by decide +kernel)
  have kc_RX5 : ∀ w ∈ u_ws RX5 TX5 6, w ∈ wsX12_meanWeight := by decide +kernel
  refine lv_aload_n hx hb dX12_meanWeight_0 rfl (lv_at hl 0 rfl) ?_
  refine va_get (D := D) (ci := 12) (v := .ref (qs 0)) (C := RX12) (T := TX12) (N := 16) hx hb hts kc_RX12 hown hK hP 0 rfl rfl 0 (by decide) k_fieldLink_10 (fun _ h9 => h9) rfl dX12_meanWeight_1 ?_
  refine va_get (D := D) (ci := 11) (v := .ref (qc 0)) (C := RX11) (T := TX11) (N := 7) hx hb hts kc_RX11 hown hK hP 1 rfl rfl 0 (by decide) k_fieldLink_85 (fun _ h9 => h9) rfl dX12_meanWeight_4 ?_
  refine lv_astore_n (lv' := [(1, .ref (qc 0)), (0, .ref o)]) hx hb dX12_meanWeight_7 rfl hl (by decide) rfl (fun ls hl => ?_)
  refine lv_aload_n hx hb dX12_meanWeight_8 rfl (lv_at hl 0 rfl) ?_
  refine va_get (D := D) (ci := 7) (v := .int (nI n)) (C := RX5) (T := TX5) (N := 6) hx hb hts kc_RX5 hown hK hP 3 rfl rfl 0 (by decide) k_fieldLink_106 (fun _ h9 => h9) rfl dX12_meanWeight_9 ?_
  refine lv_if_ne (tgt := 26) hx hb dX12_meanWeight_12 (by decide) (fun c_1 => ?_) (fun c_1 => ?_)
  · skip
    have c_1 : ¬ n = 0 := fun h => c_1 ((nI_eq (a := n) (b := 0) (by omega) (by decide)).mpr h)
    refine lv_aload_n hx hb dX12_meanWeight_26 rfl (lv_at hl 0 rfl) ?_
    refine lv_aload_n hx hb dX12_meanWeight_27 rfl (lv_at hl 0 rfl) ?_
    refine vp_callSi (W.runV (As := []) (rest := [.ref (qc 0)]) hF (m_X5_all l9 D k qc n w ly t a fx hn) (cwV 0 hts gX12_meanWeight_X5_all rfl rfl rfl (by decide +kernel) ⟨Nat.le_of_ble_eq_true rfl, Nat.le_of_ble_eq_true rfl⟩) (rPreV hK hN hP [3, 4, 5, 6, 7, 8] rfl 3 7 rfl rfl) rfl rfl hl.1 rfl (lv_room (Nat.le_of_ble_eq_true rfl)) dX12_meanWeight_28 ⟨Nat.zero_le _, Nat.zero_le _⟩) (fun r_2 hr_2 => ?_)
    subst hr_2
    refine vp_callSi (W.runV (As := [.int (nI (pw n - 1))]) (rest := []) hF (m_X5_weightOfSet l9 D k qc n w ly t a fx (nI (pw n - 1)) hn) (cwV 1 hts gX12_meanWeight_X5_weightOfSet rfl rfl rfl (by decide +kernel) ⟨Nat.le_of_ble_eq_true rfl, Nat.le_of_ble_eq_true rfl⟩) (rPreV hK hN hP [3, 4, 5, 6, 7, 8] rfl 3 7 rfl rfl) rfl rfl hl.1 rfl (lv_room (Nat.le_of_ble_eq_true rfl)) dX12_meanWeight_31 ⟨Nat.zero_le _, Nat.zero_le _⟩) (fun r_3 hr_3 => ?_)
    subst hr_3
    refine lv_i2d hx hb dX12_meanWeight_34 ?_
    refine lv_aload_n hx hb dX12_meanWeight_35 rfl (lv_at hl 0 rfl) ?_
    refine va_get (D := D) (ci := 7) (v := .int (nI n)) (C := RX5) (T := TX5) (N := 6) hx hb hts kc_RX5 hown hK hP 3 rfl rfl 0 (by decide) k_fieldLink_106 (fun _ h9 => h9) rfl dX12_meanWeight_36 ?_
    refine lv_i2d hx hb dX12_meanWeight_39 ?_
    refine lv_ddiv hx hb dX12_meanWeight_40 (okD_n64 (okD_ms hw h1 hn)) ?_
    exact W.dret (v := FP.ddiv (FP.i2d (adS n w (nI (pw n - 1)))) (FP.i2d (nI n))) hx hb hr (fun t9 ht hW => ⟨_, rfl, (by rfl), ht⟩) (fun _ h => by cases h) dX12_meanWeight_41 hlocks
  · skip
    have c_1 : n = 0 := (nI_eq (a := n) (b := 0) (by omega) (by decide)).mp c_1
    exact absurd c_1 (by omega)


set_option maxHeartbeats 4000000 in
set_option maxRecDepth 100000 in
theorem m_X12_remarkAt (l9 : Launch) (D : va_G) (k : Nat → ClassId) (o bf pa pn pk sv tr tx li ll ac ci ch : Nat) (iz : Bool) (er fl : Int32) (qs qc qr ql : Nat → Nat) (lim sh sc : Int32) (fr : Nat → UInt32) (kd rk : Nat → Int32) (x y : Int32) (hrk : chOk rk 12) (hix : rg 0 x 3 = true) (hiy : rg 0 y 2 = true) : Met l9 yX12_remarkAt wsX12_remarkAt ({ frames := 1, cells := 0, slots := 0, locals := 20 }) (RPc D k [.ref o, .int x, .int y] (bRO k o (qs 0) bf pa pn pk sv iz tr tx er fl li ll ac ci ch ++ bSt k qs qc qr ql lim sh sc fr ++ bRacks k qr kd rk)) (EI (rk (x.toNatClampNeg * 3 + y.toNatClampNeg))) 0 0 noA := by
  refine rMet (y := yX12_remarkAt) (cc := cX12_remarkAt) (maxL := 3) (ret := (some .char)) [.ref o, .int x, .int y] (by decide) rfl (Nat.le_of_ble_eq_true rfl) ?_
  intro p9 e9 s9 m9 bl9 me9 c9 ls hF hr hlocks hP hK hN hl
  have hl : lv_has ls 3 [(0, .ref o), (1, .int x), (2, .int y)] := hl
  obtain ⟨hx, hb, hml, hown, hts⟩ := id hF
  have k_fieldLink_10 : (Cond.fieldLink RX12 10 "OpinionReactor" "now" "LOpinionReactor$State;").before _ s9 = true := hts (.fieldLink RX12 10 "OpinionReactor" "now" "LOpinionReactor$State;") (by decide +kernel)
  have kc_RX12 : ∀ w ∈ u_ws RX12 TX12 16, w ∈ wsX12_remarkAt := by decide +kernel
  have k_fieldLink_203 : (Cond.fieldLink RX12 203 "OpinionReactor$State" "racks" "LOpinionReactor$Racks;").before _ s9 = true := hts (.fieldLink RX12 203 "OpinionReactor$State" "racks" "LOpinionReactor$Racks;") (by decide +kernel)
  have kc_RX11 : ∀ w ∈ u_ws RX11 TX11 7, w ∈ wsX12_remarkAt := by decide +kernel
  have k_fieldLink_232 : (Cond.fieldLink RX12 232 "OpinionReactor$Racks" "remarks" "[C").before _ s9 = true := hts (.fieldLink RX12 232 "OpinionReactor$Racks" "remarks" "[C") (by decide +kernel)
  have kc_RX10 : ∀ w ∈ u_ws RX10 TX10 2, w ∈ wsX12_remarkAt := by decide +kernel
  obtain ⟨j, hj, rfl⟩ := rg_of (m := 3) (by decide) hix
  have clj : (nI j).toNatClampNeg = j := clN (by omega)
  obtain ⟨i, hi, rfl⟩ := rg_of (m := 2) (by decide) hiy
  have cli : (nI i).toNatClampNeg = i := clN (by omega)
  refine lv_iload_n hx hb dX12_remarkAt_0 rfl (lv_at hl 1 rfl) ?_
  refine vp_callSi (W.runS (As := [.int (nI j)]) (rest := []) hF (m_X12_isLayer l9 D k (nI j) ) (va_cwS 1 hts gX12_remarkAt_X12_isLayer rfl rfl rfl (by decide +kernel) ⟨Nat.le_of_ble_eq_true rfl, Nat.le_of_ble_eq_true rfl⟩) (rPreS hK hN hP [] rfl) rfl rfl hl.1 rfl (lv_room (Nat.le_of_ble_eq_true rfl)) dX12_remarkAt_1 ⟨Nat.zero_le _, Nat.zero_le _⟩) (fun r_1 hr_1 => ?_)
  subst hr_1
  refine lv_if_eq (tgt := 14) hx hb dX12_remarkAt_4 (by decide) (fun c_2 => ?_) (fun c_2 => ?_)
  · skip
    have c_2 : (rg 0 (nI j) 3) = false := bI_0 c_2
    exact Bool.noConfusion (Eq.trans (Eq.symm hix) c_2)
  · skip
    have c_2 : (rg 0 (nI j) 3) = true := bI_1 c_2
    refine lv_iload_n hx hb dX12_remarkAt_7 rfl (lv_at hl 2 rfl) ?_
    refine vp_callSi (W.runS (As := [.int (nI i)]) (rest := []) hF (m_X12_isSlot l9 D k (nI i) ) (va_cwS 1 hts gX12_remarkAt_X12_isSlot rfl rfl rfl (by decide +kernel) ⟨Nat.le_of_ble_eq_true rfl, Nat.le_of_ble_eq_true rfl⟩) (rPreS hK hN hP [] rfl) rfl rfl hl.1 rfl (lv_room (Nat.le_of_ble_eq_true rfl)) dX12_remarkAt_8 ⟨Nat.zero_le _, Nat.zero_le _⟩) (fun r_3 hr_3 => ?_)
    subst hr_3
    refine lv_if_ne (tgt := 24) hx hb dX12_remarkAt_11 (by decide) (fun c_4 => ?_) (fun c_4 => ?_)
    · skip
      have c_4 : (rg 0 (nI i) 2) = true := bI_1 c_4
      refine lv_aload_n hx hb dX12_remarkAt_24 rfl (lv_at hl 0 rfl) ?_
      refine va_get (D := D) (ci := 12) (v := .ref (qs 0)) (C := RX12) (T := TX12) (N := 16) hx hb hts kc_RX12 hown hK hP 0 rfl rfl 0 (by decide) k_fieldLink_10 (fun _ h9 => h9) rfl dX12_remarkAt_25 ?_
      refine va_get (D := D) (ci := 11) (v := .ref (qr 0)) (C := RX11) (T := TX11) (N := 7) hx hb hts kc_RX11 hown hK hP 1 rfl rfl 1 (by decide) k_fieldLink_203 (fun _ h9 => h9) rfl dX12_remarkAt_28 ?_
      refine va_get (D := D) (ci := 10) (v := .ref (qr 2)) (C := RX10) (T := TX10) (N := 2) hx hb hts kc_RX10 hown hK hP 3 rfl rfl 1 (by decide) k_fieldLink_232 (fun _ h9 => h9) rfl dX12_remarkAt_31 ?_
      refine lv_iload_n hx hb dX12_remarkAt_34 rfl (lv_at hl 1 rfl) ?_
      refine lv_iconst (v := 3) hx hb dX12_remarkAt_35 (by decide) ?_
      refine ni_mul hx hb j 3 dX12_remarkAt_36 ?_
      refine lv_iload_n hx hb dX12_remarkAt_37 rfl (lv_at hl 2 rfl) ?_
      refine ni_add hx hb (j * 3) i dX12_remarkAt_38 ?_
      refine ca_ld hx hb hK hP 5 rfl ((j * 3) + i) (by omega) (by decide) dX12_remarkAt_39 ?_
      exact W.zret (v := rk ((j * 3) + i)) hx hb hr (congrArg Value.int (hrk (j * 3 + i) (by omega))) (fun t9 ht hW => ⟨_, rfl, (by rw [clj, cli]), ht⟩) (fun _ h => by cases h) dX12_remarkAt_40 hlocks
    · skip
      have c_4 : (rg 0 (nI i) 2) = false := bI_0 c_4
      exact Bool.noConfusion (Eq.trans (Eq.symm hiy) c_4)

set_option maxHeartbeats 4000000 in
set_option maxRecDepth 100000 in
theorem m_X12_depthOf (l9 : Launch) (D : va_G) (k : Nat → ClassId) (o bf pa pn pk sv tr tx li ll ac ci ch : Nat) (iz : Bool) (er fl : Int32) (qs qc qr ql : Nat → Nat) (lim sh sc : Int32) (fr : Nat → UInt32) (kd rk : Nat → Int32) (x : Int32) (hix : rg 0 x 3 = true) : Met l9 yX12_depthOf wsX12_depthOf ({ frames := 2, cells := 0, slots := 0, locals := 43 }) (RPc D k [.ref o, .int x] (bRO k o (qs 0) bf pa pn pk sv iz tr tx er fl li ll ac ci ch ++ bSt k qs qc qr ql lim sh sc fr ++ bRacks k qr kd rk)) (EI (dpS rk x.toNatClampNeg)) 0 0 noA := by
  refine rMet (y := yX12_depthOf) (cc := cX12_depthOf) (maxL := 2) (ret := (some .int)) [.ref o, .int x] (by decide) rfl (Nat.le_of_ble_eq_true rfl) ?_
  intro p9 e9 s9 m9 bl9 me9 c9 ls hF hr hlocks hP hK hN hl
  have hl : lv_has ls 2 [(0, .ref o), (1, .int x)] := hl
  obtain ⟨hx, hb, hml, hown, hts⟩ := id hF
  have k_fieldLink_10 : (Cond.fieldLink RX12 10 "OpinionReactor" "now" "LOpinionReactor$State;").before _ s9 = true := hts (.fieldLink RX12 10 "OpinionReactor" "now" "LOpinionReactor$State;") (by decide +kernel)
  have kc_RX12 : ∀ w ∈ u_ws RX12 TX12 16, w ∈ wsX12_depthOf := by decide +kernel
  have k_fieldLink_203 : (Cond.fieldLink RX12 203 "OpinionReactor$State" "racks" "LOpinionReactor$Racks;").before _ s9 = true := hts (.fieldLink RX12 203 "OpinionReactor$State" "racks" "LOpinionReactor$Racks;") (by decide +kernel)
  have kc_RX11 : ∀ w ∈ u_ws RX11 TX11 7, w ∈ wsX12_depthOf := by decide +kernel
  obtain ⟨j, hj, rfl⟩ := rg_of (m := 3) (by decide) hix
  have clj : (nI j).toNatClampNeg = j := clN (by omega)
  refine lv_iload_n hx hb dX12_depthOf_0 rfl (lv_at hl 1 rfl) ?_
  refine vp_callSi (W.runS (As := [.int (nI j)]) (rest := []) hF (m_X12_isLayer l9 D k (nI j) ) (va_cwS 1 hts gX12_depthOf_X12_isLayer rfl rfl rfl (by decide +kernel) ⟨Nat.le_of_ble_eq_true rfl, Nat.le_of_ble_eq_true rfl⟩) (rPreS hK hN hP [] rfl) rfl rfl hl.1 rfl (lv_room (Nat.le_of_ble_eq_true rfl)) dX12_depthOf_1 ⟨Nat.zero_le _, Nat.zero_le _⟩) (fun r_1 hr_1 => ?_)
  subst hr_1
  refine lv_if_ne (tgt := 17) hx hb dX12_depthOf_4 (by decide) (fun c_2 => ?_) (fun c_2 => ?_)
  · skip
    have c_2 : (rg 0 (nI j) 3) = true := bI_1 c_2
    refine lv_aload_n hx hb dX12_depthOf_17 rfl (lv_at hl 0 rfl) ?_
    refine va_get (D := D) (ci := 12) (v := .ref (qs 0)) (C := RX12) (T := TX12) (N := 16) hx hb hts kc_RX12 hown hK hP 0 rfl rfl 0 (by decide) k_fieldLink_10 (fun _ h9 => h9) rfl dX12_depthOf_18 ?_
    refine va_get (D := D) (ci := 11) (v := .ref (qr 0)) (C := RX11) (T := TX11) (N := 7) hx hb hts kc_RX11 hown hK hP 1 rfl rfl 1 (by decide) k_fieldLink_203 (fun _ h9 => h9) rfl dX12_depthOf_21 ?_
    refine lv_iload_n hx hb dX12_depthOf_24 rfl (lv_at hl 1 rfl) ?_
    refine vp_callSi (W.runV (As := [.int (nI j)]) (rest := []) hF (m_X10_depth l9 D k qr kd rk j (by omega)) (cwV 1 hts gX12_depthOf_X10_depth rfl rfl rfl (by decide +kernel) ⟨Nat.le_of_ble_eq_true rfl, Nat.le_of_ble_eq_true rfl⟩) (rPreV hK hN hP [3, 4, 5] rfl 3 10 rfl rfl) rfl rfl hl.1 rfl (lv_room (Nat.le_of_ble_eq_true rfl)) dX12_depthOf_25 ⟨Nat.zero_le _, Nat.zero_le _⟩) (fun r_3 hr_3 => ?_)
    subst hr_3
    exact W.iret (v := dpS rk j) hx hb hr (fun t9 ht hW => ⟨_, rfl, (by rw [clj]), ht⟩) (fun _ h => by cases h) dX12_depthOf_28 hlocks
  · skip
    have c_2 : (rg 0 (nI j) 3) = false := bI_0 c_2
    exact Bool.noConfusion (Eq.trans (Eq.symm hix) c_2)

set_option maxHeartbeats 4000000 in
set_option maxRecDepth 100000 in
theorem m_X12_lineAt (l9 : Launch) (D : va_G) (k : Nat → ClassId) (now : Nat) (o bf pa pn pk sv tr tx li ll ac ci ch : Nat) (iz : Bool) (er fl : Int32) (le : Nat → Int32) (x : Int32) (hll : ll ≤ 19) (hle : chOk le 19) (hxn : inC ll x = true) : Met l9 yX12_lineAt wsX12_lineAt ({ frames := 0, cells := 0, slots := 0, locals := 0 }) (RPc D k [.ref o, .int x] (bRO k o now bf pa pn pk sv iz tr tx er fl li ll ac ci ch ++ bC19 k li le)) (EI (le x.toNatClampNeg)) 0 0 noA := by
  refine rMet (y := yX12_lineAt) (cc := cX12_lineAt) (maxL := 2) (ret := (some .char)) [.ref o, .int x] (by decide) rfl (Nat.le_of_ble_eq_true rfl) ?_
  intro p9 e9 s9 m9 bl9 me9 c9 ls hF hr hlocks hP hK hN hl
  have hl : lv_has ls 2 [(0, .ref o), (1, .int x)] := hl
  obtain ⟨hx, hb, hml, hown, hts⟩ := id hF
  have k_fieldLink_57 : (Cond.fieldLink RX12 57 "OpinionReactor" "lineLength" "I").before _ s9 = true := hts (.fieldLink RX12 57 "OpinionReactor" "lineLength" "I") (by decide +kernel)
  have kc_RX12 : ∀ w ∈ u_ws RX12 TX12 16, w ∈ wsX12_lineAt := by decide +kernel
  have k_fieldLink_53 : (Cond.fieldLink RX12 53 "OpinionReactor" "line" "[C").before _ s9 = true := hts (.fieldLink RX12 53 "OpinionReactor" "line" "[C") (by decide +kernel)
  obtain ⟨r, hr9, rfl⟩ := inC_of2 (by omega) hxn
  have clj : (nI r).toNatClampNeg = r := clN (by omega)
  refine lv_iload_n hx hb dX12_lineAt_0 rfl (lv_at hl 1 rfl) ?_
  refine lv_if_lt (tgt := 12) hx hb dX12_lineAt_1 (by decide) (fun c_1 => ?_) (fun c_1 => ?_)
  · skip
    exact absurd c_1 (nI_pos (by omega))
  · skip
    refine lv_iload_n hx hb dX12_lineAt_4 rfl (lv_at hl 1 rfl) ?_
    refine lv_aload_n hx hb dX12_lineAt_5 rfl (lv_at hl 0 rfl) ?_
    refine va_get (D := D) (ci := 12) (v := .int (nI ll)) (C := RX12) (T := TX12) (N := 16) hx hb hts kc_RX12 hown hK hP 0 rfl rfl 12 (by decide) k_fieldLink_57 (fun _ h9 => h9) rfl dX12_lineAt_6 ?_
    refine lv_icmp_lt (tgt := 23) hx hb dX12_lineAt_9 (by decide) (fun c_2 => ?_) (fun c_2 => ?_)
    · skip
      have c_2 : r < ll := (nI_ltI (a := r) (b := ll) (by omega) (by omega)).mp c_2
      refine lv_aload_n hx hb dX12_lineAt_23 rfl (lv_at hl 0 rfl) ?_
      refine va_get (D := D) (ci := 12) (v := .ref li) (C := RX12) (T := TX12) (N := 16) hx hb hts kc_RX12 hown hK hP 0 rfl rfl 11 (by decide) k_fieldLink_53 (fun _ h9 => h9) rfl dX12_lineAt_24 ?_
      refine lv_iload_n hx hb dX12_lineAt_27 rfl (lv_at hl 1 rfl) ?_
      refine ca_ld hx hb hK hP 1 rfl r (by omega) (by decide) dX12_lineAt_28 ?_
      exact W.zret (v := le r) hx hb hr (congrArg Value.int (hle r (by omega))) (fun t9 ht hW => ⟨_, rfl, (by rw [clj]), ht⟩) (fun _ h => by cases h) dX12_lineAt_29 hlocks
    · skip
      have c_2 : ¬ r < ll := fun h => c_2 ((nI_ltI (a := r) (b := ll) (by omega) (by omega)).mpr h)
      exact absurd hr9 (by omega)

set_option maxHeartbeats 4000000 in
set_option maxRecDepth 100000 in
theorem m_X12_errorPosition (l9 : Launch) (D : va_G) (k : Nat → ClassId) (now : Nat) (o bf pa pn pk sv tr tx li ll ac ci ch : Nat) (iz : Bool) (er fl : Int32)  (he : ¬ er = -1) : Met l9 yX12_errorPosition wsX12_errorPosition ({ frames := 0, cells := 0, slots := 0, locals := 0 }) (RPc D k [.ref o] (bRO k o now bf pa pn pk sv iz tr tx er fl li ll ac ci ch)) (EI er) 0 0 noA := by
  refine rMet (y := yX12_errorPosition) (cc := cX12_errorPosition) (maxL := 1) (ret := (some .int)) [.ref o] (by decide) rfl (Nat.le_of_ble_eq_true rfl) ?_
  intro p9 e9 s9 m9 bl9 me9 c9 ls hF hr hlocks hP hK hN hl
  have hl : lv_has ls 1 [(0, .ref o)] := hl
  obtain ⟨hx, hb, hml, hown, hts⟩ := id hF
  have k_fieldLink_47 : (Cond.fieldLink RX12 47 "OpinionReactor" "lastError" "I").before _ s9 = true := hts (.fieldLink RX12 47 "OpinionReactor" "lastError" "I") (by decide +kernel)
  have kc_RX12 : ∀ w ∈ u_ws RX12 TX12 16, w ∈ wsX12_errorPosition := by decide +kernel
  refine lv_aload_n hx hb dX12_errorPosition_0 rfl (lv_at hl 0 rfl) ?_
  refine va_get (D := D) (ci := 12) (v := .int er) (C := RX12) (T := TX12) (N := 16) hx hb hts kc_RX12 hown hK hP 0 rfl rfl 9 (by decide) k_fieldLink_47 (fun _ h9 => h9) rfl dX12_errorPosition_1 ?_
  refine lv_iconst (v := (-1)) hx hb dX12_errorPosition_4 (by decide) ?_
  refine lv_icmp_ne (tgt := 19) hx hb dX12_errorPosition_5 (by decide) (fun c_1 => ?_) (fun c_1 => ?_)
  · skip
    refine lv_aload_n hx hb dX12_errorPosition_19 rfl (lv_at hl 0 rfl) ?_
    refine va_get (D := D) (ci := 12) (v := .int er) (C := RX12) (T := TX12) (N := 16) hx hb hts kc_RX12 hown hK hP 0 rfl rfl 9 (by decide) k_fieldLink_47 (fun _ h9 => h9) rfl dX12_errorPosition_20 ?_
    exact W.iret (v := er) hx hb hr (fun t9 ht hW => ⟨_, rfl, (by rfl), ht⟩) (fun _ h => by cases h) dX12_errorPosition_23 hlocks
  · skip
    exact absurd c_1 he

set_option maxHeartbeats 4000000 in
set_option maxRecDepth 100000 in
theorem m_X12_failedCommand (l9 : Launch) (D : va_G) (k : Nat → ClassId) (now : Nat) (o bf pa pn pk sv tr tx li ll ac ci ch : Nat) (iz : Bool) (er fl : Int32)  (he : ¬ fl = -1) : Met l9 yX12_failedCommand wsX12_failedCommand ({ frames := 0, cells := 0, slots := 0, locals := 0 }) (RPc D k [.ref o] (bRO k o now bf pa pn pk sv iz tr tx er fl li ll ac ci ch)) (EI fl) 0 0 noA := by
  refine rMet (y := yX12_failedCommand) (cc := cX12_failedCommand) (maxL := 1) (ret := (some .int)) [.ref o] (by decide) rfl (Nat.le_of_ble_eq_true rfl) ?_
  intro p9 e9 s9 m9 bl9 me9 c9 ls hF hr hlocks hP hK hN hl
  have hl : lv_has ls 1 [(0, .ref o)] := hl
  obtain ⟨hx, hb, hml, hown, hts⟩ := id hF
  have k_fieldLink_50 : (Cond.fieldLink RX12 50 "OpinionReactor" "lastFailed" "I").before _ s9 = true := hts (.fieldLink RX12 50 "OpinionReactor" "lastFailed" "I") (by decide +kernel)
  have kc_RX12 : ∀ w ∈ u_ws RX12 TX12 16, w ∈ wsX12_failedCommand := by decide +kernel
  refine lv_aload_n hx hb dX12_failedCommand_0 rfl (lv_at hl 0 rfl) ?_
  refine va_get (D := D) (ci := 12) (v := .int fl) (C := RX12) (T := TX12) (N := 16) hx hb hts kc_RX12 hown hK hP 0 rfl rfl 10 (by decide) k_fieldLink_50 (fun _ h9 => h9) rfl dX12_failedCommand_1 ?_
  refine lv_iconst (v := (-1)) hx hb dX12_failedCommand_4 (by decide) ?_
  refine lv_icmp_ne (tgt := 19) hx hb dX12_failedCommand_5 (by decide) (fun c_1 => ?_) (fun c_1 => ?_)
  · skip
    refine lv_aload_n hx hb dX12_failedCommand_19 rfl (lv_at hl 0 rfl) ?_
    refine va_get (D := D) (ci := 12) (v := .int fl) (C := RX12) (T := TX12) (N := 16) hx hb hts kc_RX12 hown hK hP 0 rfl rfl 10 (by decide) k_fieldLink_50 (fun _ h9 => h9) rfl dX12_failedCommand_20 ?_
    exact W.iret (v := fl) hx hb hr (fun t9 ht hW => ⟨_, rfl, (by rfl), ht⟩) (fun _ h => by cases h) dX12_failedCommand_23 hlocks
  · skip
    exact absurd c_1 he
