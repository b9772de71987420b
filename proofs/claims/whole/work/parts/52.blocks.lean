/-! Worlds as lists of blocks. -/
theorem fl_perm {bs bs' : List va_W} (h : bs.Perm bs') : bs.flatten.Perm bs'.flatten := by
  induction h with
  | nil => exact List.Perm.refl _
  | cons x _ ih =>
    rw [List.flatten_cons, List.flatten_cons]
    exact List.Perm.append_left x ih
  | swap x y l =>
    rw [List.flatten_cons, List.flatten_cons, List.flatten_cons, List.flatten_cons, ← List.append_assoc, ← List.append_assoc]
    exact List.Perm.append_right _ List.perm_append_comm
  | trans _ _ ih1 ih2 => exact ih1.trans ih2
theorem vP_mem {D : va_G} {cl : List vw_C} {ws : va_W} {H : Heap} (h : va_P D cl ws H) {q : Nat × va_E} (hq : q ∈ ws) : va_at D cl q H := by
  obtain ⟨k, hk⟩ := List.mem_iff_getElem?.mp hq
  exact h k q hk
theorem vP_perm {D : va_G} {cl : List vw_C} {ws ws' : va_W} {H : Heap} (h : va_P D cl ws H) (hp : ws.Perm ws') : va_P D cl ws' H := fun _ _ hk => vP_mem h (hp.mem_iff.mpr (List.mem_of_getElem? hk))
theorem vD_nd {A : Nat → Prop} {ws : va_W} (h : va_D A ws) : (ws.map Prod.fst).Nodup := by
  refine List.pairwise_iff_getElem.mpr (fun i j hi hj hij e => ?_)
  have hi' : i < ws.length := by simpa using hi
  have hj' : j < ws.length := by simpa using hj
  have e2 : ws[i].1 = ws[j].1 := by simpa using e
  have := h.1 i j ws[i] ws[j] (List.getElem?_eq_getElem hi') (List.getElem?_eq_getElem hj') e2
  omega
theorem vD_of {A : Nat → Prop} {ws : va_W} (h1 : (ws.map Prod.fst).Nodup) (h2 : ∀ q, q ∈ ws → A q.1) : va_D A ws := by
  have key : ∀ (i j : Nat) (p q : Nat × va_E), ws[i]? = some p → ws[j]? = some q → p.1 = q.1 → i < j → False := by
    intro i j p q hp hq e r
    obtain ⟨hi, ei⟩ := List.getElem?_eq_some_iff.mp hp
    obtain ⟨hj, ej⟩ := List.getElem?_eq_some_iff.mp hq
    have := List.pairwise_iff_getElem.mp h1 i j (by simpa using hi) (by simpa using hj) r
    apply this
    rw [List.getElem_map, List.getElem_map, ei, ej]
    exact e
  refine ⟨fun i j p q hp hq e => ?_, fun k q hk => h2 q (List.mem_of_getElem? hk)⟩
  rcases Nat.lt_trichotomy i j with r | r | r
  · exact (key i j p q hp hq e r).elim
  · exact r
  · exact (key j i q p hq hp e.symm r).elim
theorem vD_mem {A : Nat → Prop} {ws : va_W} (h : va_D A ws) {q : Nat × va_E} (hq : q ∈ ws) : A q.1 := by
  obtain ⟨k, hk⟩ := List.mem_iff_getElem?.mp hq
  exact h.2 k q hk
theorem vD_perm {A : Nat → Prop} {ws ws' : va_W} (h : va_D A ws) (hp : ws.Perm ws') : va_D A ws' :=
  vD_of ((hp.map Prod.fst).nodup_iff.mp (vD_nd h)) (fun _ hq => vD_mem h (hp.mem_iff.mpr hq))
/-- the blocks in another order -/
theorem fl_ix (bs : List va_W) (is : List Nat) (h : is.Perm (List.range bs.length)) : (is.map (fun i => bs.getD i [])).Perm bs := by
  have e : (List.range bs.length).map (fun i => bs.getD i []) = bs := by
    apply List.ext_getElem
    · simp
    · intro i h1 h2
      rw [List.getElem_map, List.getElem_range, List.getD_eq_getElem?_getD, List.getElem?_eq_getElem h2]
      rfl
  have := h.map (fun i => bs.getD i [])
  rw [e] at this
  exact this
theorem vP_ix {D : va_G} {cl : List vw_C} {bs : List va_W} {H : Heap} (h : va_P D cl bs.flatten H) (is : List Nat) (hp : is.Perm (List.range bs.length)) : va_P D cl (is.map (fun i => bs.getD i [])).flatten H := vP_perm h (fl_perm (fl_ix bs is hp)).symm
theorem vD_ix {A : Nat → Prop} {bs : List va_W} (h : va_D A bs.flatten) (is : List Nat) (hp : is.Perm (List.range bs.length)) : va_D A (is.map (fun i => bs.getD i [])).flatten := vD_perm h (fl_perm (fl_ix bs is hp)).symm
