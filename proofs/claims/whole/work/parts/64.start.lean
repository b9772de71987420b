/-! The start of the law, and what stands behind it. -/
/-! THE CLAIM OUT OF ONE WALK OF THE LAW'S BODY. Your part is whole_start (and what it stands on); all else here is the same for every law, but numbers. -/
def R_law : String := "OpinionReactorLaw"
def lw_P (b : Addr) (xs : List Int32) (args : Array Value) (s : State) : Prop := args = #[.ref b] ∧ s.IntsAt b xs ∧ xs.length ≤ 2048 ∧ (Jvm.Cond.and given_1 narrow_1).before args s = true
/-- what a walk over the start with the record d0 says of its end, said of the start itself -/
theorem lw_closed {s t : State} {o : Outcome} {d0 : Drawn} {L : List Loc} {k n : Nat} (hd0 : s.drawn.sameBut d0 lw_cs) (hv : ∃ v, o = .returned v) (hW : (s.setDrawn d0).WarmedH t.vm) (hs : (s.setDrawn d0).sameButNew ({ t with vm := s.vm } : State) L k n) : State.butDraws s t lw_cs (fun t1 => Framed s o t1 L k n) := by
  have h2 : t.drawn = d0 := congrArg State.drawn hs.1
  refine ⟨⟨hv, hW, State.sameButNew.setDrawn hs s.drawn⟩, ?_, by decide⟩
  rw [h2]
  exact hd0
def lw_Q (_ : Array Value) (s : State) (o : Outcome) (t : State) : Prop := o = .returned (some (.int 1)) ∧ State.butDraws s t lw_cs (fun t1 => Framed s o t1 [] 603072 7182442)
def lw_Z (below : List Frame) (a : Array Value) (s : State) : State → Prop := fun t => ∃ o, t.status = .running ∧ Ended t below o ∧ lw_Q a s o t
/-- the law's own end, with 1 on the stack, nothing written that was there before, its room as the claim has it; d0: the record of draws at this point (at the entry s.drawn: begin with 'refine W.base ?_' and 'have hd0 := Drawn.sameBut.refl s.drawn lw_cs') -/
theorem lw_ret {p : Program} {l : Launch} {e : Env} {s : State} {m : MethodId} {below : List Frame} {meth : Method} {c : Code} {b : Nat} {d0 : Drawn} (hd0 : s.drawn.sameBut d0 lw_cs) (hx : p.tables.exec = Jvm.exec) (hb : c.code = code) (hr : meth.sig.returnType = ret) (hlocks : meth.locks = false) {pc : Nat} {H : Heap} {ls : Array Slot} (hdg : decode code pc = .ok (.ireturn, 1)) : W p l e room_1 (s.setDrawn d0) m #[Value.ref b] below meth c H [] 603072 7182442 (lw_Z below #[Value.ref b] s) (F0 m pc ls [.int 1]) := by
  intro T hT X
  obtain ⟨fs, hret, hrun, hended, hW, hframe⟩ := X.leave (v := some (.int 1)) (hlocks := hlocks) (fun h => by rw [hr] at h; cases h)
  have hmeth' : T.vm.method? m = some meth := X.method'
  refine ⟨T.setFrames fs, ?_, .returned (some (.int 1)), hrun, hended, rfl, lw_closed hd0 ⟨_, rfl⟩ hW hframe⟩
  jvm_step X.here [X.here.top, hx, hb, hdg, hmeth', hr, ret, narrow_b1]
  (try refine ⟨rfl, ?_⟩); (try refine ⟨rfl, ?_⟩)
  first | (intro acts; rw [hret _ acts rfl rfl rfl]) | rw [hret _ _ rfl rfl rfl]
  exact Steps.refl _
/-- what holds at the law's entry: the machine, the code, the tables' words (any of lw_tbl by 'hts w (by decide +kernel)'), the script of L ints xs at the cell b, what the Statement gives of the start (any of its parts by flat_of_before) -/
def lw_At (p : Program) (s : State) (m : MethodId) (meth : Method) (c : Code) (b L : Nat) (xs : Nat → Int32) : Prop :=
  p.tables.exec = Jvm.exec ∧ c.code = code ∧ meth.sig.returnType = ret ∧ c.maxLocals = 10 ∧ s.vm.findClass R_law = some m.cls ∧ (∀ w ∈ lw_tbl, w.before #[Value.ref b] s = true) ∧ va_X b L xs s s.heap ∧ b < s.heap.size ∧ meth.locks = false ∧ (Jvm.Cond.and given_1 narrow_1).before #[Value.ref b] s = true
set_option maxHeartbeats 8000000 in
/-- YOUR PART: from the entry, for every script of at most 2048 ints, the law comes to its end with true ('hflags': the launch's flags, for a law that throws: no stack traces) -/
theorem whole_start {p : Program} {e : Env} {s : State} {m : MethodId} {below : List Frame} {meth : Method} {c : Code} (l : Launch) (hflags : l.flags = flags0) {b L : Nat} {xs : Nat → Int32} (hL : L ≤ 2048) (C0 : lw_At p s m meth c b L xs) : W p l e room_1 s m #[Value.ref b] below meth c s.heap [] 0 0 (lw_Z below #[Value.ref b] s) (entryFrame m ([Value.ref b] : List Value).toArray 10) := by
  obtain ⟨hx, hb, hr, hml, hown, hts, hX, hbl, hlocks, hgv⟩ := id C0
  have hl9 : l.stackTraces = false := by
    unfold Launch.stackTraces
    rw [hflags]
    decide +kernel
  have hs9 := flat_of_before _ hgv
  obtain ⟨A, hA, hnA, hS⟩ : ∃ A : Nat → Prop, (∀ q : Nat, s.heap.size ≤ q → A q) ∧ (∀ a : Nat, a < s.heap.size → ¬ A a) ∧ va_S A s.heap s.heap [] := ⟨fun q => s.heap.size ≤ q, fun _ h => h, fun a h => Nat.not_le.mpr h, va_S.rf⟩
  obtain ⟨D, k, hK⟩ := law_K hts
  obtain ⟨ks, kv, kf, ka, kw, hKC⟩ := law_kc hts hs9 hnA
  have hown : s.vm.findClass RL = some m.cls := hown
  have hb : c.code = cL_law := hb
  have hF : CallFix p m c cL_law 10 s #[Value.ref b] wsL_law RL := ⟨hx, hb, hml, hown, fun w hw => hts w (wsL_law_in w hw)⟩
  have hN := law_nw hts
  have hAO := law_ao hts
  have C9 : LC ks kv kf ka kw D k p s m c A b L xs := ⟨hF, hK, hN, law_xn hts hs9, law_nc hs9, law_xz hts hs9 hnA, hKC, hA, hX, hbl, hnA b hbl⟩
  have hP : va_P D vwCl [] s.heap := fun k q h => by simp at h
  have hD : va_D A [] := ⟨fun i j p q h => by simp at h, fun k q h => by simp at h⟩
  have hl := lv_entry ([.ref b]) (n := 10) (Nat.le_of_ble_eq_true rfl)
  rw [lg_entry_eq]
  generalize (lg_sl ([.ref b]) ++ List.replicate (10 - (lg_sl ([.ref b])).length) Slot.unset).toArray = ls at hl ⊢
  have hl : lv_has ls 10 [(0, .ref b)] := hl
  refine va_new (ci := 10) (fs := [.null, .null, .null, .int 0, .int 0, .null, .int 0, .null, .null, .int 0, .int 0, .null, .int 0, .null, .null, .null]) (C := RX12) (T := TX12) (N := 16) hx hb hts k10_in tyX12 tyX12_ok hown (hts _ sm1_in) (hts _ i10_in) (hts _ sm2_in) hK hP hD hS hA rfl (fun j hj => by rcases (show j = 0 ∨ j = 1 ∨ j = 2 ∨ j = 3 ∨ j = 4 ∨ j = 5 ∨ j = 6 ∨ j = 7 ∨ j = 8 ∨ j = 9 ∨ j = 10 ∨ j = 11 ∨ j = 12 ∨ j = 13 ∨ j = 14 ∨ j = 15 by omega) with rfl | rfl | rfl | rfl | rfl | rfl | rfl | rfl | rfl | rfl | rfl | rfl | rfl | rfl | rfl | rfl <;> rfl) (Nat.le_of_ble_eq_true rfl) (Nat.le_of_ble_eq_true rfl) dL_law_0 (fun q0 H hP hD hS => ?_)
  have hP := vP_perm hP (List.perm_append_comm (l₂ := ([(q0, .inr (10, [.null, .null, .null, .int 0, .int 0, .null, .int 0, .null, .null, .int 0, .int 0, .null, .int 0, .null, .null, .null]))] : va_W)))
  have hD := vD_perm hD (List.perm_append_comm (l₂ := ([(q0, .inr (10, [.null, .null, .null, .int 0, .int 0, .null, .int 0, .null, .null, .int 0, .int 0, .null, .int 0, .null, .null, .null]))] : va_W)))
  have hP : va_P D vwCl (bO10 k q0 .null .null .null (.int 0) (.int 0) .null (.int 0) .null .null (.int 0) (.int 0) .null (.int 0) .null .null .null ++ []) H := hP
  have hD : va_D A (bO10 k q0 .null .null .null (.int 0) (.int 0) .null (.int 0) .null .null (.int 0) (.int 0) .null (.int 0) .null .null .null ++ []) := hD
  refine lv_dup hx hb dL_law_3 rfl ?_
  have hFc := l_free (wc := bO10 k q0 .null .null .null (.int 0) (.int 0) .null (.int 0) .null .null (.int 0) (.int 0) .null (.int 0) .null .null .null) (wr := []) hD hS hA
  refine va_callv (va_runI (As := []) (rest := [.ref q0]) hF (m_X12_init l D k H.size q0) (cwI 0 hF.2.2.2.2 gL_law_X12_init rfl rfl rfl (hts _ sm2_in) (hts _ sm3_in) (hts _ sm4_in) rfl (by decide +kernel) ⟨Nat.le_of_ble_eq_true rfl, Nat.le_of_ble_eq_true rfl⟩) (aPreS hK hN hAO (l_P1 (wr := []) hP) (l_D1 (wr := []) hD) [0] rfl (by decide) rfl) rfl rfl hl.1 rfl (lv_room (Nat.le_of_ble_eq_true rfl)) dL_law_4 ⟨Nat.le_of_ble_eq_true rfl, Nat.le_of_ble_eq_true rfl⟩) hS (fun q _ h => hFc q h) hFc (fun u t9 H1 locs ht hvm hw hB hz1 hk1 hS => ?_)
  replace hB : WB D k (va_A (bO10 k q0 .null .null .null (.int 0) (.int 0) .null (.int 0) .null .null (.int 0) (.int 0) .null (.int 0) .null .null .null) H.size) (wp12 k q0 u) () t9 := hB
  obtain ⟨hP, hD⟩ := l_join (u := ()) (wr := []) hP hD hk1 hFc hB ht
  clear hB hk1 hz1 hvm hFc ht
  clear t9
  generalize H1 = H at hP hS ⊢
  obtain ⟨wa, hwa⟩ : ∃ z : va_W, wp12 k q0 u ++ [] = z := ⟨_, rfl⟩
  rw [hwa] at hP hD
  refine lv_astore_n (lv' := [(1, .ref q0), (0, .ref b)]) hx hb dL_law_7 rfl hl (by decide) rfl (fun ls hl => ?_)
  refine va_new (ci := 11) (fs := [.int 0, .int 0, .int 0, .int 0, .int 0, .null, .null, .null, .null, .null, .null, .null, .null, .null, .null, .null, .null, .null, .null, .null, .null, .null, .null, .int 0, .int 0, .int 0, .int 0, .int 0, .int 0]) (C := RX13) (T := TX13) (N := 29) hx hb hts k11_in tyX13 tyX13_ok hown (hts _ sm5_in) (hts _ i11_in) (hts _ sm6_in) hK hP hD hS hA rfl (fun j hj => by rcases (show j = 0 ∨ j = 1 ∨ j = 2 ∨ j = 3 ∨ j = 4 ∨ j = 5 ∨ j = 6 ∨ j = 7 ∨ j = 8 ∨ j = 9 ∨ j = 10 ∨ j = 11 ∨ j = 12 ∨ j = 13 ∨ j = 14 ∨ j = 15 ∨ j = 16 ∨ j = 17 ∨ j = 18 ∨ j = 19 ∨ j = 20 ∨ j = 21 ∨ j = 22 ∨ j = 23 ∨ j = 24 ∨ j = 25 ∨ j = 26 ∨ j = 27 ∨ j = 28 by omega) with rfl | rfl | rfl | rfl | rfl | rfl | rfl | rfl | rfl | rfl | rfl | rfl | rfl | rfl | rfl | rfl | rfl | rfl | rfl | rfl | rfl | rfl | rfl | rfl | rfl | rfl | rfl | rfl | rfl <;> rfl) (Nat.le_of_ble_eq_true rfl) (Nat.le_of_ble_eq_true rfl) dL_law_8 (fun q1 H hP hD hS => ?_)
  have hP := vP_perm hP (List.perm_append_comm (l₂ := ([(q1, .inr (11, [.int 0, .int 0, .int 0, .int 0, .int 0, .null, .null, .null, .null, .null, .null, .null, .null, .null, .null, .null, .null, .null, .null, .null, .null, .null, .null, .int 0, .int 0, .int 0, .int 0, .int 0, .int 0]))] : va_W)))
  have hD := vD_perm hD (List.perm_append_comm (l₂ := ([(q1, .inr (11, [.int 0, .int 0, .int 0, .int 0, .int 0, .null, .null, .null, .null, .null, .null, .null, .null, .null, .null, .null, .null, .null, .null, .null, .null, .null, .null, .int 0, .int 0, .int 0, .int 0, .int 0, .int 0]))] : va_W)))
  have hP : va_P D vwCl (bO11 k q1 (.int 0) (.int 0) (.int 0) (.int 0) (.int 0) .null .null .null .null .null .null .null .null .null .null .null .null .null .null .null .null .null .null (.int 0) (.int 0) (.int 0) (.int 0) (.int 0) (.int 0) ++ wa) H := hP
  have hD : va_D A (bO11 k q1 (.int 0) (.int 0) (.int 0) (.int 0) (.int 0) .null .null .null .null .null .null .null .null .null .null .null .null .null .null .null .null .null .null (.int 0) (.int 0) (.int 0) (.int 0) (.int 0) (.int 0) ++ wa) := hD
  refine lv_dup hx hb dL_law_11 rfl ?_
  have hFc := l_free (wc := bO11 k q1 (.int 0) (.int 0) (.int 0) (.int 0) (.int 0) .null .null .null .null .null .null .null .null .null .null .null .null .null .null .null .null .null .null (.int 0) (.int 0) (.int 0) (.int 0) (.int 0) (.int 0)) (wr := wa) hD hS hA
  refine va_callv (va_runI (As := []) (rest := [.ref q1]) hF (m_X13_init l D k H.size q1) (cwI 0 hF.2.2.2.2 gL_law_X13_init rfl rfl rfl (hts _ sm6_in) (hts _ sm7_in) (hts _ sm8_in) rfl (by decide +kernel) ⟨Nat.le_of_ble_eq_true rfl, Nat.le_of_ble_eq_true rfl⟩) (aPreS hK hN hAO (l_P1 (wr := wa) hP) (l_D1 (wr := wa) hD) [0] rfl (by decide) rfl) rfl rfl hl.1 rfl (lv_room (Nat.le_of_ble_eq_true rfl)) dL_law_12 ⟨Nat.le_of_ble_eq_true rfl, Nat.le_of_ble_eq_true rfl⟩) hS (fun q _ h => hFc q h) hFc (fun mq t9 H1 locs ht hvm hw hB hz1 hk1 hS => ?_)
  replace hB : WB D k (va_A (bO11 k q1 (.int 0) (.int 0) (.int 0) (.int 0) (.int 0) .null .null .null .null .null .null .null .null .null .null .null .null .null .null .null .null .null .null (.int 0) (.int 0) (.int 0) (.int 0) (.int 0) (.int 0)) H.size) (wp13 k mq) () t9 := hB
  obtain ⟨hP, hD⟩ := l_join (u := ()) (wr := wa) hP hD hk1 hFc hB ht
  clear hB hk1 hz1 hvm hFc ht
  clear t9
  generalize H1 = H at hP hS ⊢
  have hw : mq 0 = q1 := hw
  rw [← hw]
  obtain ⟨wb, hwb⟩ : ∃ z : va_W, wp13 k mq ++ wa = z := ⟨_, rfl⟩
  rw [hwb] at hP hD
  refine lv_astore_n (lv' := [(2, .ref (mq 0)), (1, .ref q0), (0, .ref b)]) hx hb dL_law_15 rfl hl (by decide) rfl (fun ls hl => ?_)
  refine lv_iconst (v := 1) hx hb dL_law_16 (by decide) ?_
  refine nw_arr (atype := .long) hx hb (hts _ sm9_in) rfl hK hP hD hS hA (a0 := (1, .inr (.inl (fun _ => 0)))) (N' := 1) (fun _ => rfl) (by decide) (by decide) (Nat.le_of_ble_eq_true rfl) (Nat.le_of_ble_eq_true rfl) (Nat.le_of_ble_eq_true rfl) 3 rfl dL_law_17 (fun out H hP hD hS => ?_)
  have hP := vP_perm hP (List.perm_append_comm (l₂ := ([(out, .inl (k 3, 1, .inr (.inl (fun _ => 0))))] : va_W)))
  have hD := vD_perm hD (List.perm_append_comm (l₂ := ([(out, .inl (k 3, 1, .inr (.inl (fun _ => 0))))] : va_W)))
  obtain ⟨wd, hwd⟩ : ∃ z : va_W, bL1 k out (fun _ => 0) ++ wb = z := ⟨_, rfl⟩
  have hP : va_P D vwCl (bL1 k out (fun _ => 0) ++ wb) H := hP
  have hD : va_D A (bL1 k out (fun _ => 0) ++ wb) := hD
  rw [hwd] at hP hD
  refine lv_astore_n (lv' := [(3, .ref out), (2, .ref (mq 0)), (1, .ref q0), (0, .ref b)]) hx hb dL_law_19 rfl hl (by decide) rfl (fun ls hl => ?_)
  refine lv_iconst (v := 1) hx hb dL_law_20 (by decide) ?_
  refine nw_arr (atype := .double) hx hb (hts _ sm10_in) rfl hK hP hD hS hA (a0 := (1, .inr (.inr (.inr (.inl (fun _ => FP.dconst0)))))) (N' := 1) (fun _ => rfl) (by decide) (by decide) (Nat.le_of_ble_eq_true rfl) (Nat.le_of_ble_eq_true rfl) (Nat.le_of_ble_eq_true rfl) 8 rfl dL_law_21 (fun outd H hP hD hS => ?_)
  have hP := vP_perm hP (List.perm_append_comm (l₂ := ([(outd, .inl (k 8, 1, .inr (.inr (.inr (.inl (fun _ => FP.dconst0))))))] : va_W)))
  have hD := vD_perm hD (List.perm_append_comm (l₂ := ([(outd, .inl (k 8, 1, .inr (.inr (.inr (.inl (fun _ => FP.dconst0))))))] : va_W)))
  have hP : va_P D vwCl (bD1 k outd (fun _ => FP.dconst0) ++ wd) H := hP
  have hD : va_D A (bD1 k outd (fun _ => FP.dconst0) ++ wd) := hD
  refine lv_astore (lv' := [(4, .ref outd), (3, .ref out), (2, .ref (mq 0)), (1, .ref q0), (0, .ref b)]) hx hb dL_law_23 hl (by decide) rfl (fun ls hl => ?_)
  refine lv_iconst (v := 0) hx hb dL_law_25 (by decide) ?_
  refine lv_istore (lv' := [(5, .int 0), (4, .ref outd), (3, .ref out), (2, .ref (mq 0)), (1, .ref q0), (0, .ref b)]) hx hb dL_law_26 hl (by decide) rfl (fun ls hl => ?_)
  subst hwd
  subst hwb
  subst hwa
  replace hP := vP_perm hP (lb_start k q0 out outd mq u)
  replace hD := vD_perm hD (lb_start k q0 out outd mq u)
  refine W.widen (k := 2000) (n := 20000) (Nat.le_of_ble_eq_true rfl) (Nat.le_of_ble_eq_true rfl) ?_
  refine law_loop hl9 C9 hL 2000 20000 (Nat.le_refl _) (Nat.le_refl _) ?_ (L + 5) 0 (by omega) (by omega) (u.1 8) s0 (u.1 9) s0 (u.1 10) s0 (u.1 11) s0 u.1 (fun _ => s0) 0 0 false (-1) (-1) 0 0 0 0 0 (fun _ => 0) (fun _ _ => 0) (fun _ => none) (fun _ => 0) (fun _ => 0) (fun _ => 0) (ct0 u) 0 (-1) (-1) 0 0 0 0 0 false false false v0M (fun _ => 0) (fun _ => 0) (fun _ => 0) (fun _ => 0) (fun _ => FP.fconst0) (fun _ => FP.fconst0) (fun _ => FP.fconst0) (fun _ => FP.fconst0) (fun _ => FP.fconst0) (fun _ => FP.fconst0) (fun _ => 0) (fun _ => 0) (fun _ => 0) (fun _ => 0) (fun _ => 0) (fun _ => 0) (fun _ => FP.dconst0) lf_0 ls H _ (lv_sub hl [5, 4, 3, 2, 1, 0] rfl) hP hD hS
  intro ls H locs cells slots h1 h2 hS
  refine va_forget (fun q hq => Nat.le_of_not_lt (fun h => hnA _ h (hS.2.2 q hq))) ?_
  refine W.widen (k := 603072) (n := 7182442) h1 h2 ?_
  refine lv_iconst (v := 1) hx hb dL_law_2700 (by decide) ?_
  exact lw_ret (d0 := s.drawn) (Drawn.sameBut.refl s.drawn lw_cs) hx hb hr hlocks dL_law_2701
