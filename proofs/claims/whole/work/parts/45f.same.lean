/-- what the model answers of its rows is what the class answers of its own -/
theorem q_acc {n : Nat} {t u a : Nat → Int32} (hn : n ≤ 10) (hs : Sym n t a) (h : ∀ c, c < n → u c = t c) : accM n u = accS n t a := by rw [accM_accS hn (hs.cg h), accS_cg a h]
theorem q_hld {n : Nat} {t u a : Nat → Int32} (hn : n ≤ 10) (hs : Sym n t a) (h : ∀ c, c < n → u c = t c) (x : Int32) : hldM n u x = hld n t a x := by rw [hldM_hld hn (hs.cg h), hld_cg a h]
theorem q_cnt {n : Nat} {t u a : Nat → Int32} (hn : n ≤ 10) (hs : Sym n t a) (h : ∀ c, c < n → u c = t c) (m : Nat) : cntM n u m = cntP n t a m := by rw [cntM_cntP hn (hs.cg h), cntP_cg a h]
theorem wtOk_cg {n : Nat} {w w2 : Nat → Int32} (h : ∀ c, c < n → w2 c = w c) (hw : wtOk n w) : wtOk n w2 := fun c hc => by
  obtain ⟨j, h1, h2, h3⟩ := hw c hc
  exact ⟨j, h1, h2, by rw [h c hc]; exact h3⟩
theorem q_hv {n : Nat} {w w2 t u a : Nat → Int32} (hn : n ≤ 10) (hs : Sym n t a) (hw : wtOk n w) (h : ∀ c, c < n → u c = t c) (h2 : ∀ c, c < n → w2 c = w c) (m : Nat) : hvM n w2 u m = hvS n w t a m := by
  rw [hvM_hvS hn (hs.cg h) (wtOk_cg h2 hw), hvS_cg a h2 h]
theorem q_und {n : Nat} {t u a : Nat → Int32} (hn : n ≤ 10) (hs : Sym n t a) (h : ∀ c, c < n → u c = t c) : nI n - nI (cn 10 (accM n u ||| orS n u (accM n u))) = nI (cn 10 (nI (pw n - 1) &&& ((accS n t a ||| orS n t (accS n t a)) ^^^ (-1)))) := by
  rw [und_eq hn (hs.cg h), accS_cg a h, orS_cg h]
theorem q_cir {n : Nat} {t u a : Nat → Int32} (hn : n ≤ 10) (hs : Sym n t a) (h : ∀ c, c < n → u c = t c) (rc : Nat → Int32) : cntC n (rchM n u rc) n = (cirS n t a n).1 := by
  rw [cirM_eq hn (hs.cg h) rc rc, ← cir_eq hn (hs.cg h) rc, cirS_cg a h]
theorem q_cr {n : Nat} {t u a : Nat → Int32} (hn : n ≤ 10) (hs : Sym n t a) (h : ∀ c, c < n → u c = t c) (rc : Nat → Int32) {i : Nat} (hi : i < n) : crM (rchM n u rc) i n = arS n t a i := by
  rw [cr_ar hn (hs.cg h) rc hi, arS_cg a h]
theorem q_ch {n : Nat} {t u : Nat → Int32} (hn : n ≤ 10) (h : ∀ c, c < n → u c = t c) {x y r : Nat} (hx : x < n) (hy : y < n) (hr : r ≤ 999) (T : CT) (wy mo : Nat → Int64) : (itW n u x wy mo r).1 y = (bsT n (nI r) (bs0 n t (nI x) T) 10).2.2.2.2.2.2.2.2.1 y := by
  rw [bs_eq hn t hx hy hr T, ← Wk_cg h]
  exact itW_ok hn u wy mo r y hy
theorem q_cs {n : Nat} {t u a : Nat → Int32} (hn : n ≤ 10) (hs : Sym n t a) (h : ∀ c, c < n → u c = t c) {x y r : Nat} (hx : x < n) (hy : y < n) (T : CT) (wy mo : Nat → Int64) : (itW n u x wy mo r).1 y = (itN n a (by0 n (nI x) T) r).2.2.2.2.2.2.2.2.1 y := by
  rw [itN_ok hn hs hx T r y hy, ← Wk_cg h]
  exact itW_ok hn u wy mo r y hy
