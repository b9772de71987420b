/-! The model: small writes. -/
/-- g below i, f from i on -/
def fil {α : Type} (f g : Nat → α) (i : Nat) : Nat → α := fun j => if j < i then g j else f j
theorem fil_in {α : Type} {f g : Nat → α} {i j : Nat} (h : j < i) : fil f g i j = g j := if_pos h
theorem fil_0 {α : Type} (f g : Nat → α) : f = fil f g 0 := by funext j; simp [fil]
theorem fil_u (f g : Nat → Int32) (i : Nat) : upd (fil f g i) i (g i) = fil f g (i + 1) := by
  funext j
  unfold upd fil
  by_cases h : j = i
  · subst h; simp
  · by_cases h2 : j < i
    · simp [h, h2, Nat.lt_succ_of_lt h2]
    · simp [h, h2, show ¬ j < i + 1 by omega]
theorem fil_v (f g : Nat → UInt32) (i : Nat) : vf_upd (fil f g i) i (g i) = fil f g (i + 1) := by
  funext j
  unfold vf_upd fil
  by_cases h : j = i
  · subst h; simp
  · by_cases h2 : j < i
    · simp [h, h2, Nat.lt_succ_of_lt h2]
    · simp [h, h2, show ¬ j < i + 1 by omega]
/-- an array's values beyond its end are of no account -/
theorem ext_i {D : va_G} {A : Nat → Prop} {ws : va_W} {H : Heap} {a n : Nat} {cA : ClassId} {f g : Nat → Int32} (hP : va_P D vwCl ws H) (hD : va_D A ws) (i : Nat) (he : ws[i]? = some (a, .inl (cA, n, .inl f))) (h : ∀ j, j < n → f j = g j) : va_P D vwCl (ws.set i (a, .inl (cA, n, .inl g))) H ∧ va_D A (ws.set i (a, .inl (cA, n, .inl g))) := by
  refine ⟨hP.set hD he ?_ (fun _ _ => rfl), hD.set he⟩
  have h0 : H[a]? = some (vp_cell cA (n, .inl f)) := hP i _ he
  show H[a]? = some (vp_cell cA (n, .inl g))
  rw [h0, vp_cell_i, vp_cell_i]
  unfold arrV
  congr 3
  funext j
  exact congrArg Value.int (h j.val j.isLt)
theorem ext_f {D : va_G} {A : Nat → Prop} {ws : va_W} {H : Heap} {a n : Nat} {cA : ClassId} {f g : Nat → UInt32} (hP : va_P D vwCl ws H) (hD : va_D A ws) (i : Nat) (he : ws[i]? = some (a, .inl (cA, n, .inr (.inr (.inl f))))) (h : ∀ j, j < n → f j = g j) : va_P D vwCl (ws.set i (a, .inl (cA, n, .inr (.inr (.inl g))))) H ∧ va_D A (ws.set i (a, .inl (cA, n, .inr (.inr (.inl g))))) := by
  refine ⟨hP.set hD he ?_ (fun _ _ => rfl), hD.set he⟩
  have h0 : H[a]? = some (vp_cell cA (n, .inr (.inr (.inl f)))) := hP i _ he
  show H[a]? = some (vp_cell cA (n, .inr (.inr (.inl g))))
  rw [h0, vp_cell_f, vp_cell_f]
  unfold arrV
  congr 3
  funext j
  exact congrArg Value.float (h j.val j.isLt)
theorem upd_at (f : Nat → Int32) (k : Nat) (x : Int32) (j : Nat) : upd f k x j = if j = k then x else f j := rfl
/-- the model's racks: the kind of a layer, its slots -/
def rkS (v : Nat → Int32) (l s : Nat) : Int32 := v (35 + 4 * l + s)
def stM (x : Int32) : Int32 := if x = 113 then 2 else if x = 111 then 3 else 0
def dpmM (v : Nat → Int32) (l m : Nat) : Int32 := up (fun i acc => acc + stM (rkS v l (i + 1))) 0 m
theorem dpmM_s (v : Nat → Int32) (l m : Nat) : dpmM v l (m + 1) = dpmM v l m + stM (rkS v l (m + 1)) := rfl
def dpM (v : Nat → Int32) (l : Nat) : Int32 := dpmM v l 3
def chM (v : Nat → Int32) (l : Nat) (z : Int32) : Bool := decide (rkS v l 0 = 97) || decide (rkS v l 0 = z)
/-- the log's rows move on by two -/
def lgm (v : Nat → Int32) (m : Nat) : Nat → Int32 := fun j => if 51 ≤ j ∧ j < 51 + m then v (j + 2) else v j
theorem lgm_0 (v : Nat → Int32) : v = lgm v 0 := by funext j; simp [lgm]; omega
theorem lgm_u (v : Nat → Int32) (m : Nat) : upd (lgm v m) (51 + m) (lgm v m (51 + m + 2)) = lgm v (m + 1) := by
  funext j
  unfold upd lgm
  by_cases h : j = 51 + m
  · subst h; rw [if_pos rfl, if_neg (by omega), if_pos (by omega)]
  · by_cases h2 : 51 ≤ j ∧ j < 51 + m
    · simp [h, h2, show j < 51 + (m + 1) by omega]
    · simp [h, h2, show ¬ (51 ≤ j ∧ j < 51 + (m + 1)) by omega]
/-- an entry of the log, of n entries -/
def lgW (v : Nat → Int32) (n : Nat) (kind : Int32) : Nat → Int32 := upd (upd (upd v (51 + 2 * n) (v 2)) (51 + 2 * n + 1) kind) 4 (nI (n + 1))
def lgS (v : Nat → Int32) (n : Nat) (kind : Int32) : Nat → Int32 := if n = 16 then lgW (upd (lgm v 30) 4 (nI 15)) 15 kind else lgW v n kind
/-- the model's changes: answer, what is thrown, the numbers -/
def opSets (v : Nat → Int32) (n : Nat) (th x y : Int32) (b : Bool) : Int32 × Int32 × (Nat → Int32) :=
  if inC n x = true ∧ inC n y = true then (bI (tb (vt v x.toNatClampNeg) y.toNatClampNeg), th, if tb (vt v x.toNatClampNeg) y.toNatClampNeg = b then v else upd v (5 + 3 * x.toNatClampNeg + 2) (v (5 + 3 * x.toNatClampNeg + 2) ^^^ bt y.toNatClampNeg)) else (0, 1, v)
def opMoves (v : Nat → Int32) (n : Nat) (th x y : Int32) : Int32 × Int32 × (Nat → Int32) :=
  if inC n x = true ∧ rg 0 y 3 = true then (v (5 + 3 * x.toNatClampNeg + 1), th, upd v (5 + 3 * x.toNatClampNeg + 1) y) else (0, 1, v)
def opLimits (v : Nat → Int32) (th x : Int32) : Int32 × Int32 × (Nat → Int32) :=
  if rg 1 x 9999 = true then (v 1, th, upd v 1 x) else (0, 1, v)
def opRacks (v : Nat → Int32) (th x z : Int32) : Int32 × Int32 × (Nat → Int32) :=
  if rg 0 x 3 = true then if z = 113 ∨ z = 111 ∨ z = 97 then if dpM v x.toNatClampNeg ≤ 0 then (v (35 + 4 * x.toNatClampNeg + 0), th, upd v (35 + 4 * x.toNatClampNeg + 0) z) else (0, 3, v) else (0, 2, v) else (0, 1, v)














