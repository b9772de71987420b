/-! What the Statement gives of the start: its words. -/
/-- the tables' words in chunks -/
def lwC : List (List Cond) := [k2_sels lw_privs, tables_1_1, tables_1_2, tables_1_3, tables_1_4, tables_1_5, tables_1_6, tables_1_7, tables_1_8]
theorem lwC_in : ∀ c ∈ lwC, ∀ w ∈ c, w ∈ lw_tbl := by
  have e : lw_tbl = lwC.flatten := by
    show k2_sels lw_privs ++ (tables_1_1 ++ (tables_1_2 ++ (tables_1_3 ++ (tables_1_4 ++ (tables_1_5 ++ (tables_1_6 ++ (tables_1_7 ++ tables_1_8))))))) = _
    unfold lwC
    simp only [List.flatten_cons, List.flatten_nil, List.append_nil]
  intro c hc w hw
  rw [e]
  exact List.mem_flatten.mpr ⟨c, hc, hw⟩
theorem lwC_m {j : Nat} {w : Cond} (h : w ∈ lwC.getD j []) : w ∈ lw_tbl := by
  have h3 : lwC.getD j [] ∈ lwC := by
    rw [List.getD_eq_getElem?_getD] at h ⊢
    cases e : lwC[j]? with
    | none => rw [e] at h; exact absurd h List.not_mem_nil
    | some c => exact List.mem_of_getElem? e
  exact lwC_in _ h3 w h
theorem tb_r (ws : List Cond) (ps : List (Nat × Nat)) (hp : ws = ps.filterMap (fun q => (lwC.getD q.1 [])[q.2]?)) : ∀ w ∈ ws, w ∈ lw_tbl := by
  intro w hw
  rw [hp] at hw
  obtain ⟨q, -, hq⟩ := List.mem_filterMap.mp hw
  exact lwC_m (List.mem_of_getElem? hq)
theorem tb_1 {w : Cond} (j i : Nat) (h : (lwC.getD j [])[i]? = some w) : w ∈ lw_tbl := lwC_m (List.mem_of_getElem? h)
/-- a word of a Cond by its path -/
def pthC : List Bool → Cond → Cond
  | [], c => c
  | b :: p, .and x y => pthC p (match b with | true => y | false => x)
  | _ :: _, c => c
theorem pth_sub (p : List Bool) : ∀ T : Cond, ∀ w ∈ flatC (pthC p T), w ∈ flatC T := by
  induction p with
  | nil => exact fun T w h => h
  | cons b p ih =>
    intro T w h
    cases T with
    | and x y =>
      show w ∈ flatC x ++ flatC y
      cases b with
      | true => exact List.mem_append_right _ (ih y w h)
      | false => exact List.mem_append_left _ (ih x w h)
    | _ => exact h
theorem pth_in {T w : Cond} (p : List Bool) (h : pthC p T = w) (hf : flatC w = [w]) : w ∈ flatC T := by
  refine pth_sub p T w ?_
  rw [h, hf]
  exact List.mem_singleton.mpr rfl
theorem nw_in : ∀ w ∈ nwL, w ∈ lw_tbl := tb_r _ [(2, 70), (2, 73), (2, 94), (2, 107), (2, 141), (2, 169), (2, 176), (3, 127), (4, 62), (4, 129), (4, 153), (4, 212), (4, 236), (5, 108)] rfl
theorem xn_in : ∀ w ∈ xnL, w ∈ lw_tbl := tb_r _ [(3, 33), (3, 105), (3, 209), (3, 225), (4, 1), (6, 75), (3, 35), (3, 37), (3, 39)] rfl
theorem sr_in9 : ∀ w ∈ strL.map (fun q => Cond.stringRef RX12 q.1 q.2), w ∈ lw_tbl := tb_r _ [(4, 101), (3, 112), (4, 190), (4, 198), (5, 39), (5, 41), (5, 57), (5, 69), (5, 91), (5, 92), (6, 8), (6, 21), (6, 29), (6, 37), (6, 59), (6, 82), (6, 102), (6, 110), (3, 205), (3, 206), (3, 216), (3, 232), (4, 8), (3, 76)] rfl
theorem sr9_in : ∀ q ∈ strL, Cond.stringRef RX12 q.1 q.2 ∈ lw_tbl := fun q hq => sr_in9 _ (List.mem_map.mpr ⟨q, hq, rfl⟩)
theorem se_in9 : ∀ w ∈ strL.map (fun q => Cond.exactly (.string RX12 q.1) "java/lang/String"), w ∈ flatC (Jvm.Cond.and given_1 narrow_1) := by
  refine List.forall_mem_cons.mpr ⟨pth_in [true, false, true, true, true, false, false, true, true, true, true] rfl rfl, List.forall_mem_cons.mpr ⟨pth_in [true, false, true, false, false, false, true, false, true, false, true] rfl rfl, List.forall_mem_cons.mpr ⟨pth_in [true, false, true, true, true, true, false, true, false, false, true] rfl rfl, List.forall_mem_cons.mpr ⟨pth_in [true, true, false, false, false, false, false, false, false, true, true] rfl rfl, List.forall_mem_cons.mpr ⟨pth_in [true, true, false, false, false, false, true, false, true, false, false] rfl rfl, List.forall_mem_cons.mpr ⟨pth_in [true, true, false, false, false, true, true, false, false, true, false] rfl rfl, List.forall_mem_cons.mpr ⟨pth_in [true, true, false, false, true, false, true, true, true, false, false] rfl rfl, List.forall_mem_cons.mpr ⟨pth_in [true, true, false, false, true, true, false, true, true, false, true] rfl rfl, List.forall_mem_cons.mpr ⟨pth_in [true, true, false, false, true, true, true, true, true, true, false] rfl rfl, List.forall_mem_cons.mpr ⟨pth_in [true, true, false, true, false, true, false, false, true, true, true] rfl rfl, List.forall_mem_cons.mpr ⟨pth_in [true, true, false, true, true, false, true, false, false, false, true] rfl rfl, List.forall_mem_cons.mpr ⟨pth_in [true, true, false, true, true, true, false, true, false, false, false] rfl rfl, List.forall_mem_cons.mpr ⟨pth_in [true, true, false, true, true, true, true, true, false, true, true] rfl rfl, List.forall_mem_cons.mpr ⟨pth_in [true, true, true, false, false, false, true, true, false, false, true] rfl rfl, List.forall_mem_cons.mpr ⟨pth_in [true, true, true, false, false, true, true, false, false, true, true] rfl rfl, List.forall_mem_cons.mpr ⟨pth_in [true, true, true, false, true, false, true, false, false, false, true] rfl rfl, List.forall_mem_cons.mpr ⟨pth_in [true, true, true, false, true, false, true, true, true, true, false] rfl rfl, List.forall_mem_cons.mpr ⟨pth_in [true, true, true, false, true, true, true, false, true, false, false] rfl rfl, List.forall_mem_cons.mpr ⟨pth_in [true, false, true, false, false, true, true, false, true, false, false] rfl rfl, List.forall_mem_cons.mpr ⟨pth_in [true, false, true, false, true, false, true, false, true, false, true] rfl rfl, List.forall_mem_cons.mpr ⟨pth_in [true, false, true, false, true, true, true, false, true, false, true] rfl rfl, List.forall_mem_cons.mpr ⟨pth_in [true, false, true, true, false, false, false, true, false, true, true] rfl rfl, List.forall_mem_cons.mpr ⟨pth_in [true, false, true, true, false, true, true, false, false, true, false] rfl rfl, List.forall_mem_cons.mpr ⟨pth_in [true, false, true, false, false, false, false, false, true, false, false] rfl rfl, fun _ h => absurd h List.not_mem_nil⟩⟩⟩⟩⟩⟩⟩⟩⟩⟩⟩⟩⟩⟩⟩⟩⟩⟩⟩⟩⟩⟩⟩⟩
theorem se_in : ∀ q ∈ strL, Cond.exactly (.string RX12 q.1) "java/lang/String" ∈ flatC (Jvm.Cond.and given_1 narrow_1) := fun q hq => se_in9 _ (List.mem_map.mpr ⟨q, hq, rfl⟩)
theorem nc_in9 : ∀ w ∈ ncL.map (fun q => Cond.not (.castable q.1 q.2)), w ∈ flatC (Jvm.Cond.and given_1 narrow_1) := by
  refine List.forall_mem_cons.mpr ⟨pth_in [true, false, false, false, true, true, true, true, true, true, false] rfl rfl, List.forall_mem_cons.mpr ⟨pth_in [true, false, false, true, false, false, true, false, false, false, false] rfl rfl, List.forall_mem_cons.mpr ⟨pth_in [true, false, false, true, false, true, true, false, false, true, false] rfl rfl, List.forall_mem_cons.mpr ⟨pth_in [true, false, false, true, true, false, false, false, true, false, false] rfl rfl, List.forall_mem_cons.mpr ⟨pth_in [true, false, false, true, true, false, true, false, true, false, true] rfl rfl, List.forall_mem_cons.mpr ⟨pth_in [true, false, false, true, false, true, false, false, false, true, false] rfl rfl, List.forall_mem_cons.mpr ⟨pth_in [true, false, false, true, false, false, true, false, false, false, true] rfl rfl, List.forall_mem_cons.mpr ⟨pth_in [true, false, false, true, false, true, true, false, false, true, true] rfl rfl, List.forall_mem_cons.mpr ⟨pth_in [true, false, false, true, true, false, false, false, true, false, true] rfl rfl, List.forall_mem_cons.mpr ⟨pth_in [true, false, false, true, true, false, true, false, true, true, false] rfl rfl, List.forall_mem_cons.mpr ⟨pth_in [true, false, false, true, false, true, false, false, false, true, true] rfl rfl, List.forall_mem_cons.mpr ⟨pth_in [true, false, false, false, true, true, true, true, true, true, true] rfl rfl, List.forall_mem_cons.mpr ⟨pth_in [true, false, false, true, false, true, true, false, true, false, false] rfl rfl, List.forall_mem_cons.mpr ⟨pth_in [true, false, false, true, true, false, false, false, true, true, false] rfl rfl, List.forall_mem_cons.mpr ⟨pth_in [true, false, false, true, true, false, true, false, true, true, true] rfl rfl, List.forall_mem_cons.mpr ⟨pth_in [true, false, false, true, false, true, false, false, true, false, false] rfl rfl, List.forall_mem_cons.mpr ⟨pth_in [true, false, false, true, false, false, false, false, false, false] rfl rfl, List.forall_mem_cons.mpr ⟨pth_in [true, false, false, true, false, false, true, false, false, true, false] rfl rfl, List.forall_mem_cons.mpr ⟨pth_in [true, false, false, true, true, false, false, false, true, true, true] rfl rfl, List.forall_mem_cons.mpr ⟨pth_in [true, false, false, true, true, false, true, true, false, false, false] rfl rfl, List.forall_mem_cons.mpr ⟨pth_in [true, false, false, true, false, true, false, false, true, false, true] rfl rfl, List.forall_mem_cons.mpr ⟨pth_in [true, false, false, true, false, false, false, false, false, true, false] rfl rfl, List.forall_mem_cons.mpr ⟨pth_in [true, false, false, true, false, false, true, false, false, true, true] rfl rfl, List.forall_mem_cons.mpr ⟨pth_in [true, false, false, true, false, true, true, false, true, false, true] rfl rfl, List.forall_mem_cons.mpr ⟨pth_in [true, false, false, true, true, false, true, true, false, false, true] rfl rfl, List.forall_mem_cons.mpr ⟨pth_in [true, false, false, true, false, true, false, false, true, true, true] rfl rfl, List.forall_mem_cons.mpr ⟨pth_in [true, false, false, true, false, false, false, false, true, false, true] rfl rfl, List.forall_mem_cons.mpr ⟨pth_in [true, false, false, true, false, false, true, false, true, true, false] rfl rfl, List.forall_mem_cons.mpr ⟨pth_in [true, false, false, true, false, true, true, true, false, false, false] rfl rfl, List.forall_mem_cons.mpr ⟨pth_in [true, false, false, true, true, false, false, true, false, true, false] rfl rfl, fun _ h => absurd h List.not_mem_nil⟩⟩⟩⟩⟩⟩⟩⟩⟩⟩⟩⟩⟩⟩⟩⟩⟩⟩⟩⟩⟩⟩⟩⟩⟩⟩⟩⟩⟩⟩
theorem nc_in : ∀ q ∈ ncL, Cond.not (.castable q.1 q.2) ∈ flatC (Jvm.Cond.and given_1 narrow_1) := fun q hq => nc_in9 _ (List.mem_map.mpr ⟨q, hq, rfl⟩)
/-- the String constants of the forms of commands, and the two of letters -/
def stT : List Term := [.string "OpinionReactor$Form" 58, .string "OpinionReactor$Form" 64, .string "OpinionReactor$Form" 67, .string "OpinionReactor$Form" 70, .string "OpinionReactor$Form" 73, .string "OpinionReactor$Form" 76, .string "OpinionReactor$Form" 79, .string "OpinionReactor$Form" 82, .string "OpinionReactor$Form" 85, .string "OpinionReactor$Form" 88, .string "OpinionReactor$CommandText" 80, .string "OpinionReactor$CommandText" 86]
def tmS (i : Nat) : Term := stT.getD i (.int 0)
def fmN : List String := ["CLAIM", "ATTACK", "CALM", "LAYER", "RACK", "INSERT", "DRAW", "EXCITE", "LIMIT", "PASS"]
def tmF (i : Nat) : Term := .static RX7 (fmN.getD i "") "LOpinionReactor$Form;"
theorem s1_in : ∀ i : Nat, i < 12 → Cond.exactly (tmS i) "java/lang/String" ∈ flatC (Jvm.Cond.and given_1 narrow_1) := by
  intro i hi
  rcases (show i = 0 ∨ i = 1 ∨ i = 2 ∨ i = 3 ∨ i = 4 ∨ i = 5 ∨ i = 6 ∨ i = 7 ∨ i = 8 ∨ i = 9 ∨ i = 10 ∨ i = 11 by omega) with rfl | rfl | rfl | rfl | rfl | rfl | rfl | rfl | rfl | rfl | rfl | rfl
  · exact pth_in [true, true, true, true, false, false, false, false, true, false, false] rfl rfl
  · exact pth_in [true, true, true, true, false, false, false, true, true, true, true] rfl rfl
  · exact pth_in [true, true, true, true, false, false, true, true, true, false, true] rfl rfl
  · exact pth_in [true, true, true, true, false, true, false, true, false, true, false] rfl rfl
  · exact pth_in [true, true, true, true, false, true, true, false, true, true, true] rfl rfl
  · exact pth_in [true, true, true, true, true, false, false, false, false, true, true] rfl rfl
  · exact pth_in [true, true, true, true, true, false, true, false, false, false, true] rfl rfl
  · exact pth_in [true, true, true, true, true, false, true, true, true, false, false] rfl rfl
  · exact pth_in [true, true, true, true, true, true, false, true, false, true, false] rfl rfl
  · exact pth_in [true, true, true, true, true, true, true, false, true, false, true] rfl rfl
  · exact pth_in [true, true, false, true, true, false, false, false, true, false, false] rfl rfl
  · exact pth_in [true, true, false, true, true, false, false, true, false, true, true] rfl rfl
theorem s2_in : ∀ i : Nat, i < 12 → Cond.eq (.field (tmS i) "java/lang/String" "coder" "B") (.int 0) ∈ flatC (Jvm.Cond.and given_1 narrow_1) := by
  intro i hi
  rcases (show i = 0 ∨ i = 1 ∨ i = 2 ∨ i = 3 ∨ i = 4 ∨ i = 5 ∨ i = 6 ∨ i = 7 ∨ i = 8 ∨ i = 9 ∨ i = 10 ∨ i = 11 by omega) with rfl | rfl | rfl | rfl | rfl | rfl | rfl | rfl | rfl | rfl | rfl | rfl
  · exact pth_in [true, true, true, true, false, false, false, false, true, false, true] rfl rfl
  · exact pth_in [true, true, true, true, false, false, true, false, false, false, false] rfl rfl
  · exact pth_in [true, true, true, true, false, false, true, true, true, true, false] rfl rfl
  · exact pth_in [true, true, true, true, false, true, false, true, false, true, true] rfl rfl
  · exact pth_in [true, true, true, true, false, true, true, true, false, false, false] rfl rfl
  · exact pth_in [true, true, true, true, true, false, false, false, true, false, false] rfl rfl
  · exact pth_in [true, true, true, true, true, false, true, false, false, true, false] rfl rfl
  · exact pth_in [true, true, true, true, true, false, true, true, true, false, true] rfl rfl
  · exact pth_in [true, true, true, true, true, true, false, true, false, true, true] rfl rfl
  · exact pth_in [true, true, true, true, true, true, true, false, true, true, false] rfl rfl
  · exact pth_in [true, true, false, true, true, false, false, false, true, false, true] rfl rfl
  · exact pth_in [true, true, false, true, true, false, false, true, true, false, false] rfl rfl
theorem s3_in : ∀ i : Nat, i < 12 → Cond.arrayOf (.field (tmS i) "java/lang/String" "value" "[B") .byte ∈ flatC (Jvm.Cond.and given_1 narrow_1) := by
  intro i hi
  rcases (show i = 0 ∨ i = 1 ∨ i = 2 ∨ i = 3 ∨ i = 4 ∨ i = 5 ∨ i = 6 ∨ i = 7 ∨ i = 8 ∨ i = 9 ∨ i = 10 ∨ i = 11 by omega) with rfl | rfl | rfl | rfl | rfl | rfl | rfl | rfl | rfl | rfl | rfl | rfl
  · exact pth_in [true, true, true, true, false, false, false, false, true, true, false] rfl rfl
  · exact pth_in [true, true, true, true, false, false, true, false, false, false, true] rfl rfl
  · exact pth_in [true, true, true, true, false, false, true, true, true, true, true] rfl rfl
  · exact pth_in [true, true, true, true, false, true, false, true, true, false, false] rfl rfl
  · exact pth_in [true, true, true, true, false, true, true, true, false, false, true] rfl rfl
  · exact pth_in [true, true, true, true, true, false, false, false, true, false, true] rfl rfl
  · exact pth_in [true, true, true, true, true, false, true, false, false, true, true] rfl rfl
  · exact pth_in [true, true, true, true, true, false, true, true, true, true, false] rfl rfl
  · exact pth_in [true, true, true, true, true, true, false, true, true, false, false] rfl rfl
  · exact pth_in [true, true, true, true, true, true, true, false, true, true, true] rfl rfl
  · exact pth_in [true, true, false, true, true, false, false, false, true, true, false] rfl rfl
  · exact pth_in [true, true, false, true, true, false, false, true, true, false, true] rfl rfl
theorem s4_in : ∀ i : Nat, i < 12 → Cond.eq (.length (.field (tmS i) "java/lang/String" "value" "[B")) (.int (Int32.ofNat (lnL.getD i 0))) ∈ flatC (Jvm.Cond.and given_1 narrow_1) := by
  intro i hi
  rcases (show i = 0 ∨ i = 1 ∨ i = 2 ∨ i = 3 ∨ i = 4 ∨ i = 5 ∨ i = 6 ∨ i = 7 ∨ i = 8 ∨ i = 9 ∨ i = 10 ∨ i = 11 by omega) with rfl | rfl | rfl | rfl | rfl | rfl | rfl | rfl | rfl | rfl | rfl | rfl
  · exact pth_in [true, true, true, true, false, false, false, false, true, true, true] rfl rfl
  · exact pth_in [true, true, true, true, false, false, true, false, false, true, false] rfl rfl
  · exact pth_in [true, true, true, true, false, true, false, false, false, false] rfl rfl
  · exact pth_in [true, true, true, true, false, true, false, true, true, false, true] rfl rfl
  · exact pth_in [true, true, true, true, false, true, true, true, false, true, false] rfl rfl
  · exact pth_in [true, true, true, true, true, false, false, false, true, true, false] rfl rfl
  · exact pth_in [true, true, true, true, true, false, true, false, true, false, false] rfl rfl
  · exact pth_in [true, true, true, true, true, false, true, true, true, true, true] rfl rfl
  · exact pth_in [true, true, true, true, true, true, false, true, true, false, true] rfl rfl
  · exact pth_in [true, true, true, true, true, true, true, true, false, false, false] rfl rfl
  · exact pth_in [true, true, false, true, true, false, false, false, true, true, true] rfl rfl
  · exact pth_in [true, true, false, true, true, false, false, true, true, true, false] rfl rfl
theorem f1_in : ∀ i : Nat, i < 10 → Cond.exactly (tmF i) RX7 ∈ flatC (Jvm.Cond.and given_1 narrow_1) := by
  intro i hi
  rcases (show i = 0 ∨ i = 1 ∨ i = 2 ∨ i = 3 ∨ i = 4 ∨ i = 5 ∨ i = 6 ∨ i = 7 ∨ i = 8 ∨ i = 9 by omega) with rfl | rfl | rfl | rfl | rfl | rfl | rfl | rfl | rfl | rfl
  · exact pth_in [true, false, false, false, false, true, false, false, true, true, true] rfl rfl
  · exact pth_in [true, false, false, false, false, true, false, true, false, true, false] rfl rfl
  · exact pth_in [true, false, false, false, false, true, false, true, true, true, false] rfl rfl
  · exact pth_in [true, false, false, false, false, true, true, false, false, true, true] rfl rfl
  · exact pth_in [true, false, false, false, false, true, true, true, false, false, true] rfl rfl
  · exact pth_in [true, false, false, false, true, false, false, false, false, false] rfl rfl
  · exact pth_in [true, false, false, false, true, false, false, true, false, false, true] rfl rfl
  · exact pth_in [true, false, false, false, true, false, true, false, false, true, false] rfl rfl
  · exact pth_in [true, false, false, false, true, false, true, true, true, false, false] rfl rfl
  · exact pth_in [true, false, false, false, true, true, false, true, false, false, false] rfl rfl
theorem f2_in : ∀ i : Nat, i < 10 → Cond.eq (.field (tmF i) RX7 "pattern" "Ljava/lang/String;") (tmS i) ∈ flatC (Jvm.Cond.and given_1 narrow_1) := by
  intro i hi
  rcases (show i = 0 ∨ i = 1 ∨ i = 2 ∨ i = 3 ∨ i = 4 ∨ i = 5 ∨ i = 6 ∨ i = 7 ∨ i = 8 ∨ i = 9 by omega) with rfl | rfl | rfl | rfl | rfl | rfl | rfl | rfl | rfl | rfl
  · exact pth_in [true, false, false, false, false, true, false, true, false, false, true] rfl rfl
  · exact pth_in [true, false, false, false, false, true, false, true, true, false, false] rfl rfl
  · exact pth_in [true, false, false, false, false, true, true, false, false, false, false] rfl rfl
  · exact pth_in [true, false, false, false, false, true, true, false, true, false, true] rfl rfl
  · exact pth_in [true, false, false, false, false, true, true, true, false, true, true] rfl rfl
  · exact pth_in [true, false, false, false, true, false, false, false, false, true, true] rfl rfl
  · exact pth_in [true, false, false, false, true, false, false, true, false, true, true] rfl rfl
  · exact pth_in [true, false, false, false, true, false, true, false, true, false, false] rfl rfl
  · exact pth_in [true, false, false, false, true, false, true, true, true, true, false] rfl rfl
  · exact pth_in [true, false, false, false, true, true, false, true, false, true, false] rfl rfl
theorem f3_in : ∀ i : Nat, i < 10 → Cond.eq (.field (tmF i) "java/lang/Enum" "ordinal" "I") (.int (nI i)) ∈ flatC (Jvm.Cond.and given_1 narrow_1) := by
  intro i hi
  rcases (show i = 0 ∨ i = 1 ∨ i = 2 ∨ i = 3 ∨ i = 4 ∨ i = 5 ∨ i = 6 ∨ i = 7 ∨ i = 8 ∨ i = 9 by omega) with rfl | rfl | rfl | rfl | rfl | rfl | rfl | rfl | rfl | rfl
  · exact pth_in [true, false, false, false, false, true, false, true, false, false, false] rfl rfl
  · exact pth_in [true, false, false, false, false, true, false, true, false, true, true] rfl rfl
  · exact pth_in [true, false, false, false, false, true, false, true, true, true, true] rfl rfl
  · exact pth_in [true, false, false, false, false, true, true, false, true, false, false] rfl rfl
  · exact pth_in [true, false, false, false, false, true, true, true, false, true, false] rfl rfl
  · exact pth_in [true, false, false, false, true, false, false, false, false, true, false] rfl rfl
  · exact pth_in [true, false, false, false, true, false, false, true, false, true, false] rfl rfl
  · exact pth_in [true, false, false, false, true, false, true, false, false, true, true] rfl rfl
  · exact pth_in [true, false, false, false, true, false, true, true, true, false, true] rfl rfl
  · exact pth_in [true, false, false, false, true, true, false, true, false, false, true] rfl rfl
theorem f4_in : ∀ i : Nat, i < 10 → Cond.eq (.elem (.static RX7 "ALL" "[LOpinionReactor$Form;") (.int (Int32.ofNat i))) (tmF i) ∈ flatC (Jvm.Cond.and given_1 narrow_1) := by
  intro i hi
  rcases (show i = 0 ∨ i = 1 ∨ i = 2 ∨ i = 3 ∨ i = 4 ∨ i = 5 ∨ i = 6 ∨ i = 7 ∨ i = 8 ∨ i = 9 by omega) with rfl | rfl | rfl | rfl | rfl | rfl | rfl | rfl | rfl | rfl
  · exact pth_in [true, false, false, false, false, false, false, true, false, true, false] rfl rfl
  · exact pth_in [true, false, false, false, false, false, false, true, false, true, true] rfl rfl
  · exact pth_in [true, false, false, false, false, false, false, true, true, false, false] rfl rfl
  · exact pth_in [true, false, false, false, false, false, false, true, true, false, true] rfl rfl
  · exact pth_in [true, false, false, false, false, false, false, true, true, true, false] rfl rfl
  · exact pth_in [true, false, false, false, false, false, false, true, true, true, true] rfl rfl
  · exact pth_in [true, false, false, false, false, false, true, false, false, false, false] rfl rfl
  · exact pth_in [true, false, false, false, false, false, true, false, false, false, true] rfl rfl
  · exact pth_in [true, false, false, false, false, false, true, false, false, true, false] rfl rfl
  · exact pth_in [true, false, false, false, false, false, true, false, false, true, true] rfl rfl
theorem f5_in : ∀ i : Nat, i < 10 → Cond.eq (.elem (.static "OpinionReactor$1" "$SwitchMap$OpinionReactor$Form" "[I") (.int (Int32.ofNat i))) (.int (nI (swM i))) ∈ flatC (Jvm.Cond.and given_1 narrow_1) := by
  intro i hi
  rcases (show i = 0 ∨ i = 1 ∨ i = 2 ∨ i = 3 ∨ i = 4 ∨ i = 5 ∨ i = 6 ∨ i = 7 ∨ i = 8 ∨ i = 9 by omega) with rfl | rfl | rfl | rfl | rfl | rfl | rfl | rfl | rfl | rfl
  · exact pth_in [true, false, false, false, false, false, true, true, true, false, false] rfl rfl
  · exact pth_in [true, false, false, false, false, false, true, true, true, false, true] rfl rfl
  · exact pth_in [true, false, false, false, false, false, true, true, true, true, false] rfl rfl
  · exact pth_in [true, false, false, false, false, false, true, true, true, true, true] rfl rfl
  · exact pth_in [true, false, false, false, false, true, false, false, false, false] rfl rfl
  · exact pth_in [true, false, false, false, false, true, false, false, false, true, false] rfl rfl
  · exact pth_in [true, false, false, false, false, true, false, false, false, true, true] rfl rfl
  · exact pth_in [true, false, false, false, false, true, false, false, true, false, false] rfl rfl
  · exact pth_in [true, false, false, false, false, true, false, false, true, false, true] rfl rfl
  · exact pth_in [true, false, false, false, false, true, false, false, true, true, false] rfl rfl
theorem s5_in : ∀ i : Nat, i < 12 → ∀ j : Nat, j < lnL.getD i 0 → Cond.eq (.elem (.field (tmS i) "java/lang/String" "value" "[B") (.int (Int32.ofNat j))) (.int ((txL.getD i []).getD j 0)) ∈ flatC (Jvm.Cond.and given_1 narrow_1) := by
  intro i hi j hj
  rcases (show i = 0 ∨ i = 1 ∨ i = 2 ∨ i = 3 ∨ i = 4 ∨ i = 5 ∨ i = 6 ∨ i = 7 ∨ i = 8 ∨ i = 9 ∨ i = 10 ∨ i = 11 by omega) with rfl | rfl | rfl | rfl | rfl | rfl | rfl | rfl | rfl | rfl | rfl | rfl
  · have hj : j < 7 := hj
    rcases (show j = 0 ∨ j = 1 ∨ j = 2 ∨ j = 3 ∨ j = 4 ∨ j = 5 ∨ j = 6 by omega) with rfl | rfl | rfl | rfl | rfl | rfl | rfl
    · exact pth_in [true, true, true, true, false, false, false, true, false, false, false] rfl rfl
    · exact pth_in [true, true, true, true, false, false, false, true, false, false, true] rfl rfl
    · exact pth_in [true, true, true, true, false, false, false, true, false, true, false] rfl rfl
    · exact pth_in [true, true, true, true, false, false, false, true, false, true, true] rfl rfl
    · exact pth_in [true, true, true, true, false, false, false, true, true, false, false] rfl rfl
    · exact pth_in [true, true, true, true, false, false, false, true, true, false, true] rfl rfl
    · exact pth_in [true, true, true, true, false, false, false, true, true, true, false] rfl rfl
  · have hj : j < 10 := hj
    rcases (show j = 0 ∨ j = 1 ∨ j = 2 ∨ j = 3 ∨ j = 4 ∨ j = 5 ∨ j = 6 ∨ j = 7 ∨ j = 8 ∨ j = 9 by omega) with rfl | rfl | rfl | rfl | rfl | rfl | rfl | rfl | rfl | rfl
    · exact pth_in [true, true, true, true, false, false, true, false, false, true, true] rfl rfl
    · exact pth_in [true, true, true, true, false, false, true, false, true, false, false] rfl rfl
    · exact pth_in [true, true, true, true, false, false, true, false, true, false, true] rfl rfl
    · exact pth_in [true, true, true, true, false, false, true, false, true, true, false] rfl rfl
    · exact pth_in [true, true, true, true, false, false, true, false, true, true, true] rfl rfl
    · exact pth_in [true, true, true, true, false, false, true, true, false, false, false] rfl rfl
    · exact pth_in [true, true, true, true, false, false, true, true, false, false, true] rfl rfl
    · exact pth_in [true, true, true, true, false, false, true, true, false, true, false] rfl rfl
    · exact pth_in [true, true, true, true, false, false, true, true, false, true, true] rfl rfl
    · exact pth_in [true, true, true, true, false, false, true, true, true, false, false] rfl rfl
  · have hj : j < 8 := hj
    rcases (show j = 0 ∨ j = 1 ∨ j = 2 ∨ j = 3 ∨ j = 4 ∨ j = 5 ∨ j = 6 ∨ j = 7 by omega) with rfl | rfl | rfl | rfl | rfl | rfl | rfl | rfl
    · exact pth_in [true, true, true, true, false, true, false, false, false, true, false] rfl rfl
    · exact pth_in [true, true, true, true, false, true, false, false, false, true, true] rfl rfl
    · exact pth_in [true, true, true, true, false, true, false, false, true, false, false] rfl rfl
    · exact pth_in [true, true, true, true, false, true, false, false, true, false, true] rfl rfl
    · exact pth_in [true, true, true, true, false, true, false, false, true, true, false] rfl rfl
    · exact pth_in [true, true, true, true, false, true, false, false, true, true, true] rfl rfl
    · exact pth_in [true, true, true, true, false, true, false, true, false, false, false] rfl rfl
    · exact pth_in [true, true, true, true, false, true, false, true, false, false, true] rfl rfl
  · have hj : j < 9 := hj
    rcases (show j = 0 ∨ j = 1 ∨ j = 2 ∨ j = 3 ∨ j = 4 ∨ j = 5 ∨ j = 6 ∨ j = 7 ∨ j = 8 by omega) with rfl | rfl | rfl | rfl | rfl | rfl | rfl | rfl | rfl
    · exact pth_in [true, true, true, true, false, true, false, true, true, true, false] rfl rfl
    · exact pth_in [true, true, true, true, false, true, false, true, true, true, true] rfl rfl
    · exact pth_in [true, true, true, true, false, true, true, false, false, false, false] rfl rfl
    · exact pth_in [true, true, true, true, false, true, true, false, false, false, true] rfl rfl
    · exact pth_in [true, true, true, true, false, true, true, false, false, true, false] rfl rfl
    · exact pth_in [true, true, true, true, false, true, true, false, false, true, true] rfl rfl
    · exact pth_in [true, true, true, true, false, true, true, false, true, false, false] rfl rfl
    · exact pth_in [true, true, true, true, false, true, true, false, true, false, true] rfl rfl
    · exact pth_in [true, true, true, true, false, true, true, false, true, true, false] rfl rfl
  · have hj : j < 7 := hj
    rcases (show j = 0 ∨ j = 1 ∨ j = 2 ∨ j = 3 ∨ j = 4 ∨ j = 5 ∨ j = 6 by omega) with rfl | rfl | rfl | rfl | rfl | rfl | rfl
    · exact pth_in [true, true, true, true, false, true, true, true, false, true, true] rfl rfl
    · exact pth_in [true, true, true, true, false, true, true, true, true, false, false] rfl rfl
    · exact pth_in [true, true, true, true, false, true, true, true, true, false, true] rfl rfl
    · exact pth_in [true, true, true, true, false, true, true, true, true, true, false] rfl rfl
    · exact pth_in [true, true, true, true, false, true, true, true, true, true, true] rfl rfl
    · exact pth_in [true, true, true, true, true, false, false, false, false, false] rfl rfl
    · exact pth_in [true, true, true, true, true, false, false, false, false, true, false] rfl rfl
  · have hj : j < 10 := hj
    rcases (show j = 0 ∨ j = 1 ∨ j = 2 ∨ j = 3 ∨ j = 4 ∨ j = 5 ∨ j = 6 ∨ j = 7 ∨ j = 8 ∨ j = 9 by omega) with rfl | rfl | rfl | rfl | rfl | rfl | rfl | rfl | rfl | rfl
    · exact pth_in [true, true, true, true, true, false, false, false, true, true, true] rfl rfl
    · exact pth_in [true, true, true, true, true, false, false, true, false, false, false] rfl rfl
    · exact pth_in [true, true, true, true, true, false, false, true, false, false, true] rfl rfl
    · exact pth_in [true, true, true, true, true, false, false, true, false, true, false] rfl rfl
    · exact pth_in [true, true, true, true, true, false, false, true, false, true, true] rfl rfl
    · exact pth_in [true, true, true, true, true, false, false, true, true, false, false] rfl rfl
    · exact pth_in [true, true, true, true, true, false, false, true, true, false, true] rfl rfl
    · exact pth_in [true, true, true, true, true, false, false, true, true, true, false] rfl rfl
    · exact pth_in [true, true, true, true, true, false, false, true, true, true, true] rfl rfl
    · exact pth_in [true, true, true, true, true, false, true, false, false, false, false] rfl rfl
  · have hj : j < 7 := hj
    rcases (show j = 0 ∨ j = 1 ∨ j = 2 ∨ j = 3 ∨ j = 4 ∨ j = 5 ∨ j = 6 by omega) with rfl | rfl | rfl | rfl | rfl | rfl | rfl
    · exact pth_in [true, true, true, true, true, false, true, false, true, false, true] rfl rfl
    · exact pth_in [true, true, true, true, true, false, true, false, true, true, false] rfl rfl
    · exact pth_in [true, true, true, true, true, false, true, false, true, true, true] rfl rfl
    · exact pth_in [true, true, true, true, true, false, true, true, false, false, false] rfl rfl
    · exact pth_in [true, true, true, true, true, false, true, true, false, false, true] rfl rfl
    · exact pth_in [true, true, true, true, true, false, true, true, false, true, false] rfl rfl
    · exact pth_in [true, true, true, true, true, false, true, true, false, true, true] rfl rfl
  · have hj : j < 10 := hj
    rcases (show j = 0 ∨ j = 1 ∨ j = 2 ∨ j = 3 ∨ j = 4 ∨ j = 5 ∨ j = 6 ∨ j = 7 ∨ j = 8 ∨ j = 9 by omega) with rfl | rfl | rfl | rfl | rfl | rfl | rfl | rfl | rfl | rfl
    · exact pth_in [true, true, true, true, true, true, false, false, false, false, false] rfl rfl
    · exact pth_in [true, true, true, true, true, true, false, false, false, false, true] rfl rfl
    · exact pth_in [true, true, true, true, true, true, false, false, false, true, false] rfl rfl
    · exact pth_in [true, true, true, true, true, true, false, false, false, true, true] rfl rfl
    · exact pth_in [true, true, true, true, true, true, false, false, true, false, false] rfl rfl
    · exact pth_in [true, true, true, true, true, true, false, false, true, false, true] rfl rfl
    · exact pth_in [true, true, true, true, true, true, false, false, true, true, false] rfl rfl
    · exact pth_in [true, true, true, true, true, true, false, false, true, true, true] rfl rfl
    · exact pth_in [true, true, true, true, true, true, false, true, false, false, false] rfl rfl
    · exact pth_in [true, true, true, true, true, true, false, true, false, false, true] rfl rfl
  · have hj : j < 7 := hj
    rcases (show j = 0 ∨ j = 1 ∨ j = 2 ∨ j = 3 ∨ j = 4 ∨ j = 5 ∨ j = 6 by omega) with rfl | rfl | rfl | rfl | rfl | rfl | rfl
    · exact pth_in [true, true, true, true, true, true, false, true, true, true, false] rfl rfl
    · exact pth_in [true, true, true, true, true, true, false, true, true, true, true] rfl rfl
    · exact pth_in [true, true, true, true, true, true, true, false, false, false, false] rfl rfl
    · exact pth_in [true, true, true, true, true, true, true, false, false, false, true] rfl rfl
    · exact pth_in [true, true, true, true, true, true, true, false, false, true, false] rfl rfl
    · exact pth_in [true, true, true, true, true, true, true, false, false, true, true] rfl rfl
    · exact pth_in [true, true, true, true, true, true, true, false, true, false, false] rfl rfl
  · have hj : j < 6 := hj
    rcases (show j = 0 ∨ j = 1 ∨ j = 2 ∨ j = 3 ∨ j = 4 ∨ j = 5 by omega) with rfl | rfl | rfl | rfl | rfl | rfl
    · exact pth_in [true, true, true, true, true, true, true, true, false, false, true] rfl rfl
    · exact pth_in [true, true, true, true, true, true, true, true, false, true, false] rfl rfl
    · exact pth_in [true, true, true, true, true, true, true, true, false, true, true] rfl rfl
    · exact pth_in [true, true, true, true, true, true, true, true, true, false, false] rfl rfl
    · exact pth_in [true, true, true, true, true, true, true, true, true, false, true] rfl rfl
    · exact pth_in [true, true, true, true, true, true, true, true, true, true, false] rfl rfl
  · have hj : j < 3 := hj
    rcases (show j = 0 ∨ j = 1 ∨ j = 2 by omega) with rfl | rfl | rfl
    · exact pth_in [true, true, false, true, true, false, false, true, false, false, false] rfl rfl
    · exact pth_in [true, true, false, true, true, false, false, true, false, false, true] rfl rfl
    · exact pth_in [true, true, false, true, true, false, false, true, false, true, false] rfl rfl
  · have hj : j < 2 := hj
    rcases (show j = 0 ∨ j = 1 by omega) with rfl | rfl
    · exact pth_in [true, true, false, true, true, false, false, true, true, true, true] rfl rfl
    · exact pth_in [true, true, false, true, true, false, true, false, false, false, false] rfl rfl
theorem z1_in : (Cond.isRef (.static Bundle.tN "UNASSIGNED_STACK" Bundle.steD)) ∈ flatC (Jvm.Cond.and given_1 narrow_1) := pth_in [true, false, false, false, false, false, false, false, false, true, true] rfl rfl
theorem z2_in : (Cond.isRef (.static Bundle.tN "SUPPRESSED_SENTINEL" Bundle.listD)) ∈ flatC (Jvm.Cond.and given_1 narrow_1) := pth_in [true, false, false, false, false, false, false, false, true, false, false] rfl rfl
theorem z3_in : (Cond.exactly (.static RX7 "ALL" "[LOpinionReactor$Form;") "[LOpinionReactor$Form;") ∈ flatC (Jvm.Cond.and given_1 narrow_1) := pth_in [true, false, false, false, false, false, false, false, true, true, false] rfl rfl
theorem z4_in : (Cond.arrayOf (.static RX7 "ALL" "[LOpinionReactor$Form;") (.object RX7)) ∈ flatC (Jvm.Cond.and given_1 narrow_1) := pth_in [true, false, false, false, false, false, false, false, true, true, true] rfl rfl
theorem z5_in : (Cond.eq (.length (.static RX7 "ALL" "[LOpinionReactor$Form;")) (.int 10)) ∈ flatC (Jvm.Cond.and given_1 narrow_1) := pth_in [true, false, false, false, false, false, false, true, false, false, false] rfl rfl
theorem z6_in : (Cond.eq (.static "java/lang/String" "COMPACT_STRINGS" "Z") (.int 1)) ∈ flatC (Jvm.Cond.and given_1 narrow_1) := pth_in [true, false, false, false, false, false, true, false, true, false, false] rfl rfl
theorem z7_in : (Cond.isRef (.static "jdk/internal/util/Preconditions" "SIOOBE_FORMATTER" "Ljava/util/function/BiFunction;")) ∈ flatC (Jvm.Cond.and given_1 narrow_1) := pth_in [true, false, false, false, false, false, true, false, true, false, true] rfl rfl
theorem z8_in : (Cond.arrayOf (.static "OpinionReactor$1" "$SwitchMap$OpinionReactor$Form" "[I") .int) ∈ flatC (Jvm.Cond.and given_1 narrow_1) := pth_in [true, false, false, false, false, false, true, true, false, true, false] rfl rfl
theorem z9_in : (Cond.eq (.length (.static "OpinionReactor$1" "$SwitchMap$OpinionReactor$Form" "[I")) (.int 10)) ∈ flatC (Jvm.Cond.and given_1 narrow_1) := pth_in [true, false, false, false, false, false, true, true, false, true, true] rfl rfl
theorem t1_in : (Cond.laysStatic Bundle.tN "UNASSIGNED_STACK" Bundle.steD) ∈ lw_tbl := tb_1 3 58 rfl
theorem t2_in : (Cond.initialized Bundle.tN) ∈ lw_tbl := tb_1 1 12 rfl
theorem t3_in : (Cond.laysStatic Bundle.tN "SUPPRESSED_SENTINEL" Bundle.listD) ∈ lw_tbl := tb_1 3 60 rfl
theorem t4_in : (Cond.laysStatic RX7 "ALL" "[LOpinionReactor$Form;") ∈ lw_tbl := tb_1 5 109 rfl
theorem t5_in : (Cond.initialized RX7) ∈ lw_tbl := tb_1 1 29 rfl
theorem t6_in : (Cond.laysStatic "java/lang/String" "COMPACT_STRINGS" "Z") ∈ lw_tbl := tb_1 5 123 rfl
theorem t7_in : (Cond.initialized "java/lang/String") ∈ lw_tbl := tb_1 1 22 rfl
theorem t8_in : (Cond.laysStatic "jdk/internal/util/Preconditions" "SIOOBE_FORMATTER" "Ljava/util/function/BiFunction;") ∈ lw_tbl := tb_1 5 139 rfl
theorem t9_in : (Cond.initialized "jdk/internal/util/Preconditions") ∈ lw_tbl := tb_1 1 31 rfl
theorem t10_in : (Cond.laysStatic "OpinionReactor$1" "$SwitchMap$OpinionReactor$Form" "[I") ∈ lw_tbl := tb_1 6 14 rfl
theorem t11_in : (Cond.initialized "OpinionReactor$1") ∈ lw_tbl := tb_1 1 34 rfl
theorem t12_in : (Cond.stringRef RX6 80 "qoa") ∈ lw_tbl := tb_1 5 182 rfl
theorem t13_in : (Cond.stringRef RX6 86 "qo") ∈ lw_tbl := tb_1 6 2 rfl
theorem t14_in : (Cond.arrayOver (.array .long)) ∈ lw_tbl := tb_1 1 228 rfl
theorem t15_in : (Cond.arrayOver (.array .int)) ∈ lw_tbl := tb_1 1 173 rfl
theorem t16_in : (Cond.arrayOver (.object "OpinionReactor$State")) ∈ lw_tbl := tb_1 1 163 rfl
theorem t17_in : (Cond.arrayOver (.object "OpinionReactor$Form")) ∈ lw_tbl := tb_1 1 171 rfl
theorem t18_in : (Cond.arrayClass .int) ∈ lw_tbl := tb_1 1 96 rfl
theorem t19_in : (Cond.arrayClass .char) ∈ lw_tbl := tb_1 1 113 rfl
theorem t20_in : (Cond.arrayClass .float) ∈ lw_tbl := tb_1 1 97 rfl
theorem t21_in : (Cond.arrayClass .long) ∈ lw_tbl := tb_1 2 2 rfl
theorem t22_in : (Cond.arrayClass .double) ∈ lw_tbl := tb_1 8 156 rfl
theorem k0_in : ∀ w ∈ u_ws RJ0 TJ0 2, w ∈ lw_tbl := tb_r _ [(4, 38), (4, 40)] rfl
theorem i0_in : (Cond.instantiable RJ0 4) ∈ lw_tbl := tb_1 4 37 rfl
theorem k1_in : ∀ w ∈ u_ws RJx00060 TJx00060 6, w ∈ lw_tbl := tb_r _ [(4, 26), (4, 27), (4, 28), (4, 29), (4, 30), (4, 31)] rfl
theorem i1_in : (Cond.instantiable RJx00060 6) ∈ lw_tbl := tb_1 4 22 rfl
theorem k2_in : ∀ w ∈ u_ws RX1 TX1 1, w ∈ lw_tbl := tb_r _ [(1, 208)] rfl
theorem i2_in : (Cond.instantiable RX1 1) ∈ lw_tbl := tb_1 1 202 rfl
theorem k3_in : ∀ w ∈ u_ws RX3 TX3 4, w ∈ lw_tbl := tb_r _ [(1, 233), (1, 235), (1, 237), (1, 239)] rfl
theorem i3_in : (Cond.instantiable RX3 4) ∈ lw_tbl := tb_1 1 222 rfl
theorem k4_in : ∀ w ∈ u_ws RX4 TX4 1, w ∈ lw_tbl := tb_r _ [(1, 218)] rfl
theorem i4_in : (Cond.instantiable RX4 1) ∈ lw_tbl := tb_1 1 212 rfl
theorem k5_in : ∀ w ∈ u_ws RX5 TX5 6, w ∈ lw_tbl := tb_r _ [(1, 83), (1, 85), (1, 87), (1, 89), (1, 91), (1, 93)] rfl
theorem i5_in : (Cond.instantiable RX5 6) ∈ lw_tbl := tb_1 1 52 rfl
theorem k6_in : ∀ w ∈ u_ws RX6 TX6 7, w ∈ lw_tbl := tb_r _ [(1, 186), (1, 188), (1, 190), (1, 192), (1, 194), (1, 196), (1, 198)] rfl
theorem i6_in : (Cond.instantiable RX6 7) ∈ lw_tbl := tb_1 1 165 rfl
theorem k7_in : ∀ w ∈ u_ws RX8 TX8 4, w ∈ lw_tbl := tb_r _ [(1, 127), (1, 129), (1, 131), (1, 133)] rfl
theorem i7_in : (Cond.instantiable RX8 4) ∈ lw_tbl := tb_1 1 115 rfl
theorem k8_in : ∀ w ∈ u_ws RX10 TX10 2, w ∈ lw_tbl := tb_r _ [(1, 108), (1, 110)] rfl
theorem i8_in : (Cond.instantiable RX10 2) ∈ lw_tbl := tb_1 1 99 rfl
theorem k9_in : ∀ w ∈ u_ws RX11 TX11 7, w ∈ lw_tbl := tb_r _ [(1, 148), (1, 150), (1, 152), (1, 154), (1, 156), (1, 158), (1, 160)] rfl
theorem i9_in : (Cond.instantiable RX11 7) ∈ lw_tbl := tb_1 1 46 rfl
theorem k10_in : ∀ w ∈ u_ws RX12 TX12 16, w ∈ lw_tbl := tb_r _ [(2, 19), (2, 21), (2, 23), (2, 25), (2, 27), (2, 29), (2, 31), (2, 33), (2, 35), (2, 37), (2, 39), (2, 41), (2, 43), (2, 45), (2, 47), (2, 49)] rfl
theorem i10_in : (Cond.instantiable RX12 16) ∈ lw_tbl := tb_1 1 38 rfl
theorem k11_in : ∀ w ∈ u_ws RX13 TX13 29, w ∈ lw_tbl := tb_r _ [(6, 149), (6, 151), (6, 153), (6, 155), (6, 157), (6, 159), (6, 161), (6, 163), (6, 165), (6, 167), (6, 169), (6, 171), (6, 173), (6, 175), (6, 177), (6, 179), (6, 181), (6, 183), (6, 185), (6, 187), (6, 189), (6, 191), (6, 193), (6, 195), (6, 197), (6, 199), (6, 201), (6, 203), (6, 205)] rfl
theorem i11_in : (Cond.instantiable RX13 29) ∈ lw_tbl := tb_1 6 112 rfl
theorem tx_inj : ∀ i : Nat, i < 12 → ∀ j : Nat, j < 12 → lnL.getD i 0 = lnL.getD j 0 → (∀ c : Nat, c < lnL.getD i 0 → (txL.getD i []).getD c 0 = (txL.getD j []).getD c 0) → i = j := by decide +kernel
theorem ln_lt : ∀ i : Nat, i < 12 → lnL.getD i 0 < 2 ^ 31 := by decide +kernel
