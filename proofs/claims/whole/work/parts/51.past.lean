/-! States that are good; what was before. -/
/-- a state as runs leave it -/
def Good (S : SC) : Prop := okC S ∧ ¬ limS S < 0 ∧ ∀ c, c < S.1 → smO (S.2.2.2.2.2.1 c)
theorem smO_nx {n : Nat} {a : Nat → Int32} {f : Nat → UInt32} (hf : ∀ c, c < n → okF (f c)) {c : Nat} (hc : c < n) (rk : Nat → Int32) (j : Nat) : smO (nxF n a f (dpS rk j) c) :=
  smO_cp (okF_div (okF_mul (okF_nxm hf hc (Nat.le_refl n)) (psF_dp rk j)) psF_ten)
theorem smO_it {n : Nat} (a ly kd : Nat → Int32) (lim : Int32) {s : CS} (h : ∀ c, c < n → smO (s.1 c)) (r : Nat) : ∀ c, c < n → smO ((itS n a ly kd lim s r).1 c) := by
  induction r with
  | zero => exact h
  | succ r ih =>
    intro c hc
    show smO ((shS n a ly kd lim (itS n a ly kd lim s r)).1 c)
    generalize itS n a ly kd lim s r = T at ih ⊢
    show smO (fil T.1 (frS n a ly T.1 T.2.1 T.2.2.2.2.2.2.2.2 n) n c)
    rw [fil_in hc, frS_at _ _ _ _ _ _ hc]
    exact smO_nx (fun d hd => (ih d hd).1) hc _ _
theorem smO_heat {n : Nat} {fx : Nat → UInt32} (h : ∀ c, c < n → smO (fx c)) (x am : Int32) : ∀ c, c < n → smO ((opHeat n fx x am).2 c) := by
  intro c hc
  unfold opHeat
  split
  · split
    · exact h c hc
    · rename_i h1
      split
      · rename_i h2
        show smO (vf_upd fx x.toNatClampNeg (cpF (FP.fadd (fx x.toNatClampNeg) (FP.i2f am))) c)
        unfold vf_upd
        split
        · rename_i e
          refine smO_cp (okF_add ?_ (okF_am (Int32.not_lt.mp h1) h2))
          rw [← e]; exact (h c hc).1
        · exact h c hc
      · exact h c hc
  · exact h c hc
theorem smO_co {S : SC} (h : Good S) (i : Nat) (x y z : Int32) : ∀ c, c < (coS i x y z S).2.1 → smO ((coS i x y z S).2.2.2.2.2.2.1 c) := by
  obtain ⟨n, w, ly, t, a, fx, kd, rk, lsh, lk, lc, lx, lim, sh, sc, fr⟩ := S
  obtain ⟨hS, -, hf⟩ := h
  have hz := hS.2.2.2.2.2.2.2.2.1
  have hn : n ≤ 10 := hS.1
  have hf : ∀ c, c < n → smO (fx c) := hf
  match i with
  | 0 =>
    intro c hc
    show smO (fx c)
    have hc : c < (opEnter n w x).2.1 := hc
    by_cases q : c < n
    · exact hf c q
    · have e : fx c = FP.fconst0 := by
        have h1 : (opEnter n w x).2.1 ≤ n + 1 ∧ ((opEnter n w x).2.1 = n + 1 → n < 10) := by
          unfold opEnter
          split
          · split
            · rename_i h9; exact ⟨Nat.le_refl _, fun _ => h9⟩
            · exact ⟨Nat.le_succ n, fun h9 => absurd h9 (by show ¬ n = n + 1; omega)⟩
          · exact ⟨Nat.le_succ n, fun h9 => absurd h9 (by show ¬ n = n + 1; omega)⟩
        exact (hz c (by show n ≤ c; omega) (by have := h1.2; omega)).1
      rw [e]; exact smO_0
  | 1 => exact hf
  | 2 => exact hf
  | 3 => exact hf
  | 4 => exact hf
  | 5 => exact hf
  | 6 => exact hf
  | 7 => exact smO_heat hf x y
  | 8 => exact hf
  | i + 9 =>
    intro c hc
    show smO ((advT n a ly kd lim (fx, rk, lsh, lk, lc, lx, sh, sc, fr) x).1 c)
    unfold advT
    split
    · exact hf c hc
    · split
      · exact smO_it a ly kd lim (s := (fx, rk, lsh, lk, lc, lx, sh, sc, fr)) hf _ c hc
      · exact hf c hc
theorem lim_co {S : SC} (h : ¬ limS S < 0) (i : Nat) (x y z : Int32) : ¬ limS (coS i x y z S).2 < 0 := by
  obtain ⟨n, w, ly, t, a, fx, kd, rk, lsh, lk, lc, lx, lim, sh, sc, fr⟩ := S
  match i with
  | 0 => exact h
  | 1 => exact h
  | 2 => exact h
  | 3 => exact h
  | 4 => exact h
  | 5 => exact h
  | 6 => exact h
  | 7 => exact h
  | 8 =>
    show ¬ (if 1 ≤ x ∧ x ≤ 9999 then x else lim) < 0
    split
    · rename_i q
      intro r
      have q := q.1
      rw [Int32.lt_iff_toInt_lt, i32_0] at r
      rw [Int32.le_iff_toInt_le, i32_1] at q
      omega
    · exact h
  | i + 9 => exact h
theorem good_co {S : SC} (h : Good S) (i : Nat) (x y z : Int32) : Good (coS i x y z S).2 := ⟨okC_co h.1 i x y z, lim_co h.2.1 i x y z, smO_co h i x y z⟩
theorem good_ru (F : Nat → Nat) (V : Nat → Nat → Int32) {S : SC} (h : Good S) (i : Nat) : Good (ruU F V S i) := by
  induction i with
  | zero => exact h
  | succ i ih => exact good_co ih _ _ _ _
/-- the two sides' states say the same -/
def RelG (S : SC) (v : Nat → Int32) (fl : Nat → UInt32) : Prop := Good S ∧ RelS S v fl
theorem RelS_cg {S : SC} {v v' : Nat → Int32} {fl fl' : Nat → UInt32} (hS : okC S) (h : RelS S v fl) (e : ∀ j, j < 83 → v' j = v j) (e2 : ∀ c, c < 10 → fl' c = fl c) : RelS S v' fl' := by
  have hn := hS.1
  have hlc := hS.2.2.2.1
  obtain ⟨⟨h0, h1, h2, h3⟩, hL⟩ := h
  refine ⟨⟨by rw [e 0 (by decide)]; exact h0, by rw [e 1 (by decide)]; exact h1, fun c hc => ?_, fun j hj => ?_⟩, RLg_cong hL hlc (e 2 (by decide)) (e 3 (by decide)) (e 4 (by decide)) (fun j _ hj => e j hj)⟩
  · obtain ⟨a1, a2, a3, a4⟩ := h2 c hc
    unfold vw vl vt at *
    exact ⟨by rw [e _ (by omega)]; exact a1, by rw [e _ (by omega)]; exact a2, by rw [e _ (by omega)]; exact a3, by rw [e2 c (by omega)]; exact a4⟩
  · obtain ⟨a1, a2⟩ := h3 j hj
    exact ⟨by rw [e _ (by omega)]; exact a1, fun i hi => by rw [e _ (by omega)]; exact a2 i hi⟩
theorem RelG.cg {S : SC} {v v' : Nat → Int32} {fl fl' : Nat → UInt32} (h : RelG S v fl) (e : ∀ j, j < 83 → v' j = v j) (e2 : ∀ c, c < 10 → fl' c = fl c) : RelG S v' fl' := ⟨h.1, RelS_cg h.1.1 h.2 e e2⟩
/-- the past: the class's ring, the model's rows -/
def PastR (pn pk : Nat) (PS : Nat → SC) (pa : Nat → Int32) (fp : Nat → UInt32) : Prop :=
  pn < 8 ∧ pk ≤ 8 ∧ ∀ i, i < pk → RelG (PS ((pn + 8 - pk + i) % 8)) (fun j => pa (i * 83 + j)) (fun c => fp (i * 10 + c))
def upS (PS : Nat → SC) (k : Nat) (S : SC) : Nat → SC := fun i => if i = k then S else PS i
theorem past_0 {pn : Nat} (h : pn < 8) (PS : Nat → SC) (pa : Nat → Int32) (fp : Nat → UInt32) : PastR pn 0 PS pa fp := ⟨h, Nat.zero_le _, fun i hi => absurd hi (Nat.not_lt_zero i)⟩
theorem pt_in {α : Type} {f g : Nat → α} {b m j : Nat} (h : b ≤ j) (h2 : j < b + m) : pt f b g m j = g (j - b) := if_pos ⟨h, h2⟩
theorem pt_out {α : Type} {f g : Nat → α} {b m j : Nat} (h : j < b ∨ b + m ≤ j) : pt f b g m j = f j := if_neg (fun q => by omega)
theorem past_push {pn pk : Nat} {PS : Nat → SC} {pa : Nat → Int32} {fp : Nat → UInt32} (h : PastR pn pk PS pa fp) {S : SC} {v : Nat → Int32} {fl : Nat → UInt32} (hS : RelG S v fl) :
    PastR ((pn + 1) % 8) (min (pk + 1) 8) (upS PS pn S) (paE pk pa v) (fpE pk fp fl) ∧ min (pk + 1) 8 = chE pk := by
  obtain ⟨h1, h2, h3⟩ := h
  have hch : min (pk + 1) 8 = chE pk := by
    unfold chE c1E
    split <;> omega
  refine ⟨⟨Nat.mod_lt _ (by decide), Nat.min_le_right _ _, fun i hi => ?_⟩, hch⟩
  by_cases e8 : pk = 8
  · have hm : min (pk + 1) 8 = 8 := by omega
    rw [hm] at hi ⊢
    have ec : c1E pk = 7 := if_pos e8
    unfold paE fpE
    rw [ec, if_pos e8, if_pos e8]
    by_cases e7 : i = 7
    · subst e7
      have ei : ((pn + 1) % 8 + 8 - 8 + 7) % 8 = pn := by omega
      rw [ei]
      unfold upS
      rw [if_pos rfl]
      refine hS.cg (fun j hj => ?_) (fun c hc => ?_)
      · rw [pt_in (by omega) (by omega)]
        exact congrArg _ (by omega)
      · rw [pt_in (by omega) (by omega)]
        exact congrArg _ (by omega)
    · have ei : ((pn + 1) % 8 + 8 - 8 + i) % 8 = (pn + 8 - pk + (i + 1)) % 8 := by omega
      have hne : ¬ (pn + 8 - pk + (i + 1)) % 8 = pn := by omega
      rw [ei]
      unfold upS
      rw [if_neg hne]
      refine (h3 (i + 1) (by omega)).cg (fun j hj => ?_) (fun c hc => ?_)
      · rw [pt_out (by omega)]
        show s83 pa 581 (i * 83 + j) = pa ((i + 1) * 83 + j)
        unfold s83
        rw [if_pos (by omega)]
        exact congrArg _ (by omega)
      · rw [pt_out (by omega)]
        show s10 fp 70 (i * 10 + c) = fp ((i + 1) * 10 + c)
        unfold s10
        rw [if_pos (by omega)]
        exact congrArg _ (by omega)
  · have hm : min (pk + 1) 8 = pk + 1 := by omega
    rw [hm] at hi ⊢
    have ec : c1E pk = pk := if_neg e8
    unfold paE fpE
    rw [ec, if_neg e8, if_neg e8]
    by_cases e7 : i = pk
    · subst e7
      have ei : ((pn + 1) % 8 + 8 - (i + 1) + i) % 8 = pn := by omega
      rw [ei]
      unfold upS
      rw [if_pos rfl]
      refine hS.cg (fun j hj => ?_) (fun c hc => ?_)
      · rw [pt_in (by omega) (by omega)]
        exact congrArg _ (by omega)
      · rw [pt_in (by omega) (by omega)]
        exact congrArg _ (by omega)
    · have ei : ((pn + 1) % 8 + 8 - (pk + 1) + i) % 8 = (pn + 8 - pk + i) % 8 := by omega
      have hne : ¬ (pn + 8 - pk + i) % 8 = pn := by omega
      rw [ei]
      unfold upS
      rw [if_neg hne]
      refine (h3 i (by omega)).cg (fun j hj => ?_) (fun c hc => ?_)
      · rw [pt_out (by omega)]
      · rw [pt_out (by omega)]
theorem past_pop {pn pk : Nat} {PS : Nat → SC} {pa : Nat → Int32} {fp : Nat → UInt32} (h : PastR pn pk PS pa fp) (hk : 1 ≤ pk) (S : SC) :
    PastR ((pn + 7) % 8) (pk - 1) (upS PS ((pn + 7) % 8) S) pa fp ∧ RelG (PS ((pn + 7) % 8)) (bkI pa pk) (bkF fp pk) := by
  obtain ⟨h1, h2, h3⟩ := h
  refine ⟨⟨Nat.mod_lt _ (by decide), by omega, fun i hi => ?_⟩, ?_⟩
  · have ei : ((pn + 7) % 8 + 8 - (pk - 1) + i) % 8 = (pn + 8 - pk + i) % 8 := by omega
    have hne : ¬ (pn + 8 - pk + i) % 8 = (pn + 7) % 8 := by omega
    rw [ei]
    unfold upS
    rw [if_neg hne]
    exact h3 i (by omega)
  · have := h3 (pk - 1) (by omega)
    rw [show (pn + 8 - pk + (pk - 1)) % 8 = (pn + 7) % 8 by omega] at this
    exact this
/-- the log's entries -/
theorem q_log {lsh lk : Nat → Int32} {lc lx : Nat} {sh sc : Int32} {v : Nat → Int32} (h : RLg lsh lk lc lx sh sc v) (hc : lc ≤ 16) (hx : lx < 16) {x : Int32} (hi : inC lc x = true) :
    v (51 + 2 * (lc - 1 - x.toNatClampNeg)) = lsh ((lx + 15 - x.toNatClampNeg) % 16) ∧ v (51 + 2 * (lc - 1 - x.toNatClampNeg) + 1) = lk ((lx + 15 - x.toNatClampNeg) % 16) := by
  obtain ⟨r, hr, rfl⟩ := inC_of2 (by omega) hi
  rw [nI_clamp (by omega)]
  have := h.2.2.2 (lc - 1 - r) (by omega)
  rw [show (lx + 16 - lc + (lc - 1 - r)) % 16 = (lx + 15 - r) % 16 by omega] at this
  exact this
