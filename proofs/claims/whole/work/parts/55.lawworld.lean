/-! The law's world at its loop's head, as a list of blocks. -/
def catL : List va_W → va_W
  | [] => []
  | x :: xs => xs.foldl (fun a b => a ++ b) x
theorem catL_fl (l : List va_W) : catL l = l.flatten := by
  cases l with
  | nil => rfl
  | cons x xs =>
    show xs.foldl (fun a b => a ++ b) x = (x :: xs).flatten
    rw [List.flatten_cons]
    induction xs generalizing x with
    | nil => simp
    | cons y ys ih =>
      show ys.foldl (fun a b => a ++ b) (x ++ y) = _
      rw [ih, List.flatten_cons, List.append_assoc]
def pkL (bs : List va_W) (is : List Nat) : va_W := catL (is.map (fun i => bs.getD i []))
def pkR (bs : List va_W) (is : List Nat) : va_W := (is.map (fun i => bs.getD i [])).flatten
theorem lb_perm (bs : List va_W) (i1 i2 i3 : List Nat) (hl : bs.length = 55) (hp : (i1 ++ (i2 ++ i3)).Perm (List.range 55)) : (pkL bs i1 ++ (pkL bs i2 ++ pkR bs i3)).Perm bs.flatten := by
  have h := fl_perm (fl_ix bs (i1 ++ (i2 ++ i3)) (by rw [hl]; exact hp))
  unfold pkL pkR
  rw [catL_fl, catL_fl]
  rw [List.map_append, List.map_append, List.flatten_append, List.flatten_append] at h
  exact h
theorem lb_P {D : va_G} {H : Heap} (bs : List va_W) (i1 i2 i3 : List Nat) (hl : bs.length = 55) (hp : (i1 ++ (i2 ++ i3)).Perm (List.range 55)) (h : va_P D vwCl bs.flatten H) : va_P D vwCl (pkL bs i1 ++ (pkL bs i2 ++ pkR bs i3)) H := vP_perm h (lb_perm bs i1 i2 i3 hl hp).symm
theorem lb_D {A : Nat → Prop} (bs : List va_W) (i1 i2 i3 : List Nat) (hl : bs.length = 55) (hp : (i1 ++ (i2 ++ i3)).Perm (List.range 55)) (h : va_D A bs.flatten) : va_D A (pkL bs i1 ++ (pkL bs i2 ++ pkR bs i3)) := vD_perm h (lb_perm bs i1 i2 i3 hl hp).symm
theorem lb_Pj {D : va_G} {H : Heap} (bs : List va_W) (i1 i2 i3 : List Nat) (hl : bs.length = 55) (hp : (i1 ++ (i2 ++ i3)).Perm (List.range 55)) (h : va_P D vwCl (pkL bs i1 ++ (pkL bs i2 ++ pkR bs i3)) H) : va_P D vwCl bs.flatten H := vP_perm h (lb_perm bs i1 i2 i3 hl hp)
theorem lb_Dj {A : Nat → Prop} (bs : List va_W) (i1 i2 i3 : List Nat) (hl : bs.length = 55) (hp : (i1 ++ (i2 ++ i3)).Perm (List.range 55)) (h : va_D A (pkL bs i1 ++ (pkL bs i2 ++ pkR bs i3))) : va_D A bs.flatten := vD_perm h (lb_perm bs i1 i2 i3 hl hp)
/-- a state's four blocks -/
def sx (k : Nat → ClassId) (u : Nat → Nat → Nat) (S : SC) : va_W := bSt k (u 0) (u 1) (u 2) (u 3) S.2.2.2.2.2.2.2.2.2.2.2.2.1 S.2.2.2.2.2.2.2.2.2.2.2.2.2.1 S.2.2.2.2.2.2.2.2.2.2.2.2.2.2.1 S.2.2.2.2.2.2.2.2.2.2.2.2.2.2.2 ++ bClaims k (u 1) S.1 S.2.1 S.2.2.1 S.2.2.2.1 S.2.2.2.2.1 S.2.2.2.2.2.1 ++ bRacks k (u 2) S.2.2.2.2.2.2.1 S.2.2.2.2.2.2.2.1 ++ bLog k (u 3) S.2.2.2.2.2.2.2.2.1 S.2.2.2.2.2.2.2.2.2.1 S.2.2.2.2.2.2.2.2.2.2.1 S.2.2.2.2.2.2.2.2.2.2.2.1

def upU (U : Nat → Nat → Nat → Nat) (i : Nat) (u : Nat → Nat → Nat) : Nat → Nat → Nat → Nat := fun j => if j = i then u else U j
/-- the past states -/
def plB (k : Nat → ClassId) (U : Nat → Nat → Nat → Nat) (PS : Nat → SC) : va_W := ((List.range 8).map (fun j => sx k (U j) (PS j))).flatten
theorem upU_g (U : Nat → Nat → Nat → Nat) (i : Nat) (u : Nat → Nat → Nat) : upP (fun j => U j 0 0) i (u 0 0) = fun j => upU U i u j 0 0 := by
  funext j
  unfold upP upU
  by_cases e : j = i
  · rw [if_pos e, if_pos e]
  · rw [if_neg e, if_neg e]
theorem pl_swap (k : Nat → ClassId) {i : Nat} (h : i < 8) (u : Nat → Nat → Nat) (X : SC) (U : Nat → Nat → Nat → Nat) (PS : Nat → SC) : (sx k u X ++ plB k U PS).Perm (sx k (U i) (PS i) ++ plB k (upU U i u) (upS PS i X)) := by
  rcases (show i = 0 ∨ i = 1 ∨ i = 2 ∨ i = 3 ∨ i = 4 ∨ i = 5 ∨ i = 6 ∨ i = 7 by omega) with rfl | rfl | rfl | rfl | rfl | rfl | rfl | rfl
  · exact (fl_perm (fl_ix [sx k u X, sx k (U 0) (PS 0), sx k (U 1) (PS 1), sx k (U 2) (PS 2), sx k (U 3) (PS 3), sx k (U 4) (PS 4), sx k (U 5) (PS 5), sx k (U 6) (PS 6), sx k (U 7) (PS 7)] [1, 0, 2, 3, 4, 5, 6, 7, 8] (show List.Perm [1, 0, 2, 3, 4, 5, 6, 7, 8] (List.range 9) by decide +kernel))).symm
  · exact (fl_perm (fl_ix [sx k u X, sx k (U 0) (PS 0), sx k (U 1) (PS 1), sx k (U 2) (PS 2), sx k (U 3) (PS 3), sx k (U 4) (PS 4), sx k (U 5) (PS 5), sx k (U 6) (PS 6), sx k (U 7) (PS 7)] [2, 1, 0, 3, 4, 5, 6, 7, 8] (show List.Perm [2, 1, 0, 3, 4, 5, 6, 7, 8] (List.range 9) by decide +kernel))).symm
  · exact (fl_perm (fl_ix [sx k u X, sx k (U 0) (PS 0), sx k (U 1) (PS 1), sx k (U 2) (PS 2), sx k (U 3) (PS 3), sx k (U 4) (PS 4), sx k (U 5) (PS 5), sx k (U 6) (PS 6), sx k (U 7) (PS 7)] [3, 1, 2, 0, 4, 5, 6, 7, 8] (show List.Perm [3, 1, 2, 0, 4, 5, 6, 7, 8] (List.range 9) by decide +kernel))).symm
  · exact (fl_perm (fl_ix [sx k u X, sx k (U 0) (PS 0), sx k (U 1) (PS 1), sx k (U 2) (PS 2), sx k (U 3) (PS 3), sx k (U 4) (PS 4), sx k (U 5) (PS 5), sx k (U 6) (PS 6), sx k (U 7) (PS 7)] [4, 1, 2, 3, 0, 5, 6, 7, 8] (show List.Perm [4, 1, 2, 3, 0, 5, 6, 7, 8] (List.range 9) by decide +kernel))).symm
  · exact (fl_perm (fl_ix [sx k u X, sx k (U 0) (PS 0), sx k (U 1) (PS 1), sx k (U 2) (PS 2), sx k (U 3) (PS 3), sx k (U 4) (PS 4), sx k (U 5) (PS 5), sx k (U 6) (PS 6), sx k (U 7) (PS 7)] [5, 1, 2, 3, 4, 0, 6, 7, 8] (show List.Perm [5, 1, 2, 3, 4, 0, 6, 7, 8] (List.range 9) by decide +kernel))).symm
  · exact (fl_perm (fl_ix [sx k u X, sx k (U 0) (PS 0), sx k (U 1) (PS 1), sx k (U 2) (PS 2), sx k (U 3) (PS 3), sx k (U 4) (PS 4), sx k (U 5) (PS 5), sx k (U 6) (PS 6), sx k (U 7) (PS 7)] [6, 1, 2, 3, 4, 5, 0, 7, 8] (show List.Perm [6, 1, 2, 3, 4, 5, 0, 7, 8] (List.range 9) by decide +kernel))).symm
  · exact (fl_perm (fl_ix [sx k u X, sx k (U 0) (PS 0), sx k (U 1) (PS 1), sx k (U 2) (PS 2), sx k (U 3) (PS 3), sx k (U 4) (PS 4), sx k (U 5) (PS 5), sx k (U 6) (PS 6), sx k (U 7) (PS 7)] [7, 1, 2, 3, 4, 5, 6, 0, 8] (show List.Perm [7, 1, 2, 3, 4, 5, 6, 0, 8] (List.range 9) by decide +kernel))).symm
  · exact (fl_perm (fl_ix [sx k u X, sx k (U 0) (PS 0), sx k (U 1) (PS 1), sx k (U 2) (PS 2), sx k (U 3) (PS 3), sx k (U 4) (PS 4), sx k (U 5) (PS 5), sx k (U 6) (PS 6), sx k (U 7) (PS 7)] [8, 1, 2, 3, 4, 5, 6, 7, 0] (show List.Perm [8, 1, 2, 3, 4, 5, 6, 7, 0] (List.range 9) by decide +kernel))).symm
/-- all blocks -/
def LBg (k : Nat → ClassId) (o pa tx sg fo va li co : Nat) (qk qq gi mq : Nat → Nat) (out outd rn rb : Nat) (g9 : Nat → Nat) (un : Nat → Nat → Nat) (S : SC) (ub : Nat → Nat → Nat) (Sb : SC) (uv : Nat → Nat → Nat) (Sv : SC) (ut : Nat → Nat → Nat) (St : SC) (U : Nat → Nat → Nat → Nat) (PS : Nat → SC) (pn pk : Nat) (iz : Bool) (er fl : Int32) (ll tl cm vc sp : Nat) (ts : Nat → Int32) (V : Nat → Nat → Int32) (fs : Nat → Option Nat) (le lf rd : Nat → Int32) (T : CT) (th ea fa : Int32) (ch tn he en ln : Nat) (svb wr dg : Bool) (v be sd pm rc : Nat → Int32) (f fb fd fp nx as9 : Nat → UInt32) (wy mo : Nat → Int64) (tx9 li9 il : Nat → Int32) (ou : Nat → Int64) (od : Nat → UInt64) : List va_W :=
  [bRO k o rn rb pa pn pk (uv 0 0) iz (ut 0 0) tx er fl li ll (qk 0) (qq 0) co,
   bPA k pa g9,
   bSt k (un 0) (un 1) (un 2) (un 3) S.2.2.2.2.2.2.2.2.2.2.2.2.1 S.2.2.2.2.2.2.2.2.2.2.2.2.2.1 S.2.2.2.2.2.2.2.2.2.2.2.2.2.2.1 S.2.2.2.2.2.2.2.2.2.2.2.2.2.2.2,
   bClaims k (un 1) S.1 S.2.1 S.2.2.1 S.2.2.2.1 S.2.2.2.2.1 S.2.2.2.2.2.1,
   bRacks k (un 2) S.2.2.2.2.2.2.1 S.2.2.2.2.2.2.2.1,
   bLog k (un 3) S.2.2.2.2.2.2.2.2.1 S.2.2.2.2.2.2.2.2.2.1 S.2.2.2.2.2.2.2.2.2.2.1 S.2.2.2.2.2.2.2.2.2.2.2.1,
   bSt k (ub 0) (ub 1) (ub 2) (ub 3) Sb.2.2.2.2.2.2.2.2.2.2.2.2.1 Sb.2.2.2.2.2.2.2.2.2.2.2.2.2.1 Sb.2.2.2.2.2.2.2.2.2.2.2.2.2.2.1 Sb.2.2.2.2.2.2.2.2.2.2.2.2.2.2.2,
   bClaims k (ub 1) Sb.1 Sb.2.1 Sb.2.2.1 Sb.2.2.2.1 Sb.2.2.2.2.1 Sb.2.2.2.2.2.1,
   bRacks k (ub 2) Sb.2.2.2.2.2.2.1 Sb.2.2.2.2.2.2.2.1,
   bLog k (ub 3) Sb.2.2.2.2.2.2.2.2.1 Sb.2.2.2.2.2.2.2.2.2.1 Sb.2.2.2.2.2.2.2.2.2.2.1 Sb.2.2.2.2.2.2.2.2.2.2.2.1,
   bSt k (uv 0) (uv 1) (uv 2) (uv 3) Sv.2.2.2.2.2.2.2.2.2.2.2.2.1 Sv.2.2.2.2.2.2.2.2.2.2.2.2.2.1 Sv.2.2.2.2.2.2.2.2.2.2.2.2.2.2.1 Sv.2.2.2.2.2.2.2.2.2.2.2.2.2.2.2,
   bClaims k (uv 1) Sv.1 Sv.2.1 Sv.2.2.1 Sv.2.2.2.1 Sv.2.2.2.2.1 Sv.2.2.2.2.2.1,
   bRacks k (uv 2) Sv.2.2.2.2.2.2.1 Sv.2.2.2.2.2.2.2.1,
   bLog k (uv 3) Sv.2.2.2.2.2.2.2.2.1 Sv.2.2.2.2.2.2.2.2.2.1 Sv.2.2.2.2.2.2.2.2.2.2.1 Sv.2.2.2.2.2.2.2.2.2.2.2.1,
   bSt k (ut 0) (ut 1) (ut 2) (ut 3) St.2.2.2.2.2.2.2.2.2.2.2.2.1 St.2.2.2.2.2.2.2.2.2.2.2.2.2.1 St.2.2.2.2.2.2.2.2.2.2.2.2.2.2.1 St.2.2.2.2.2.2.2.2.2.2.2.2.2.2.2,
   bClaims k (ut 1) St.1 St.2.1 St.2.2.1 St.2.2.2.1 St.2.2.2.2.1 St.2.2.2.2.2.1,
   bRacks k (ut 2) St.2.2.2.2.2.2.1 St.2.2.2.2.2.2.2.1,
   bLog k (ut 3) St.2.2.2.2.2.2.2.2.1 St.2.2.2.2.2.2.2.2.2.1 St.2.2.2.2.2.2.2.2.2.2.1 St.2.2.2.2.2.2.2.2.2.2.2.1,
   plB k U PS,
   bCT k tx sg tl fo va cm vc sp,
   bC60 k sg ts,
   bGI k va gi,
   bG3 k gi V,
   bFO k fo fs,
   bC19 k li le,
   bAcc k qk lf,
   bCirc k qq rd,
   bCh k co T.1 T.2.1 T.2.2.1 T.2.2.2.1,
   bGL k T.1 T.2.2.2.2.1,
   bGL k T.2.1 T.2.2.2.2.2.1,
   bGr k T.2.2.2.2.1 T.2.2.2.2.2.2.1,
   bGr k T.2.2.2.2.2.1 T.2.2.2.2.2.2.2.1,
   bL10 k T.2.2.1 T.2.2.2.2.2.2.2.2.1,
   bL10 k T.2.2.2.1 T.2.2.2.2.2.2.2.2.2,
   bMO k mq th ea fa ch tn he en ln svb wr dg,
   bI83 k (mq 1) v,
   bI83 k (mq 2) be,
   bI83 k (mq 3) sd,
   bI664 k (mq 4) pm,
   bI10 k (mq 5) rc,
   bF10 k (mq 6) f,
   bF10 k (mq 7) fb,
   bF10 k (mq 8) fd,
   bF80 k (mq 9) fp,
   bF10 k (mq 10) nx,
   bF10 k (mq 11) as9,
   bL10 k (mq 12) wy,
   bL10 k (mq 13) mo,
   bI60 k (mq 14) tx9,
   bI24 k (mq 15) li9,
   bI10 k (mq 16) il,
   bI59 k (mq 17) wdK,
   bI11 k (mq 18) waI,
   bL1 k out ou,
   bD1 k outd od]
set_option maxHeartbeats 4000000 in
set_option maxRecDepth 100000 in
theorem lb_swap_b (k : Nat → ClassId) (o pa tx sg fo va li co : Nat) (qk qq gi mq : Nat → Nat) (out outd rn rb : Nat) (g9 : Nat → Nat) (un : Nat → Nat → Nat) (S : SC) (ub : Nat → Nat → Nat) (Sb : SC) (uv : Nat → Nat → Nat) (Sv : SC) (ut : Nat → Nat → Nat) (St : SC) (U : Nat → Nat → Nat → Nat) (PS : Nat → SC) (pn pk : Nat) (iz : Bool) (er fl : Int32) (ll tl cm vc sp : Nat) (ts : Nat → Int32) (V : Nat → Nat → Int32) (fs : Nat → Option Nat) (le lf rd : Nat → Int32) (T : CT) (th ea fa : Int32) (ch tn he en ln : Nat) (svb wr dg : Bool) (v be sd pm rc : Nat → Int32) (f fb fd fp nx as9 : Nat → UInt32) (wy mo : Nat → Int64) (tx9 li9 il : Nat → Int32) (ou : Nat → Int64) (od : Nat → UInt64) {i9 : Nat} (h : i9 < 8) : (LBg k o pa tx sg fo va li co qk qq gi mq out outd rn rb g9 un S ub Sb uv Sv ut St U PS pn pk iz er fl ll tl cm vc sp ts V fs le lf rd T th ea fa ch tn he en ln svb wr dg v be sd pm rc f fb fd fp nx as9 wy mo tx9 li9 il ou od).flatten.Perm (LBg k o pa tx sg fo va li co qk qq gi mq out outd rn rb g9 un S (U i9) (PS i9) uv Sv ut St (upU U i9 ub) (upS PS i9 Sb) pn pk iz er fl ll tl cm vc sp ts V fs le lf rd T th ea fa ch tn he en ln svb wr dg v be sd pm rc f fb fd fp nx as9 wy mo tx9 li9 il ou od).flatten := by
  refine (lb_perm (LBg k o pa tx sg fo va li co qk qq gi mq out outd rn rb g9 un S ub Sb uv Sv ut St U PS pn pk iz er fl ll tl cm vc sp ts V fs le lf rd T th ea fa ch tn he en ln svb wr dg v be sd pm rc f fb fd fp nx as9 wy mo tx9 li9 il ou od) [6, 7, 8, 9] [18] [0, 1, 2, 3, 4, 5, 10, 11, 12, 13, 14, 15, 16, 17, 19, 20, 21, 22, 23, 24, 25, 26, 27, 28, 29, 30, 31, 32, 33, 34, 35, 36, 37, 38, 39, 40, 41, 42, 43, 44, 45, 46, 47, 48, 49, 50, 51, 52, 53, 54] rfl (by decide +kernel)).symm.trans (List.Perm.trans ?_ (lb_perm (LBg k o pa tx sg fo va li co qk qq gi mq out outd rn rb g9 un S (U i9) (PS i9) uv Sv ut St (upU U i9 ub) (upS PS i9 Sb) pn pk iz er fl ll tl cm vc sp ts V fs le lf rd T th ea fa ch tn he en ln svb wr dg v be sd pm rc f fb fd fp nx as9 wy mo tx9 li9 il ou od) [6, 7, 8, 9] [18] [0, 1, 2, 3, 4, 5, 10, 11, 12, 13, 14, 15, 16, 17, 19, 20, 21, 22, 23, 24, 25, 26, 27, 28, 29, 30, 31, 32, 33, 34, 35, 36, 37, 38, 39, 40, 41, 42, 43, 44, 45, 46, 47, 48, 49, 50, 51, 52, 53, 54] rfl (by decide +kernel)))
  show (sx k ub Sb ++ (plB k U PS ++ ([bRO k o rn rb pa pn pk (uv 0 0) iz (ut 0 0) tx er fl li ll (qk 0) (qq 0) co, bPA k pa g9, bSt k (un 0) (un 1) (un 2) (un 3) S.2.2.2.2.2.2.2.2.2.2.2.2.1 S.2.2.2.2.2.2.2.2.2.2.2.2.2.1 S.2.2.2.2.2.2.2.2.2.2.2.2.2.2.1 S.2.2.2.2.2.2.2.2.2.2.2.2.2.2.2, bClaims k (un 1) S.1 S.2.1 S.2.2.1 S.2.2.2.1 S.2.2.2.2.1 S.2.2.2.2.2.1, bRacks k (un 2) S.2.2.2.2.2.2.1 S.2.2.2.2.2.2.2.1, bLog k (un 3) S.2.2.2.2.2.2.2.2.1 S.2.2.2.2.2.2.2.2.2.1 S.2.2.2.2.2.2.2.2.2.2.1 S.2.2.2.2.2.2.2.2.2.2.2.1, bSt k (uv 0) (uv 1) (uv 2) (uv 3) Sv.2.2.2.2.2.2.2.2.2.2.2.2.1 Sv.2.2.2.2.2.2.2.2.2.2.2.2.2.1 Sv.2.2.2.2.2.2.2.2.2.2.2.2.2.2.1 Sv.2.2.2.2.2.2.2.2.2.2.2.2.2.2.2, bClaims k (uv 1) Sv.1 Sv.2.1 Sv.2.2.1 Sv.2.2.2.1 Sv.2.2.2.2.1 Sv.2.2.2.2.2.1, bRacks k (uv 2) Sv.2.2.2.2.2.2.1 Sv.2.2.2.2.2.2.2.1, bLog k (uv 3) Sv.2.2.2.2.2.2.2.2.1 Sv.2.2.2.2.2.2.2.2.2.1 Sv.2.2.2.2.2.2.2.2.2.2.1 Sv.2.2.2.2.2.2.2.2.2.2.2.1, bSt k (ut 0) (ut 1) (ut 2) (ut 3) St.2.2.2.2.2.2.2.2.2.2.2.2.1 St.2.2.2.2.2.2.2.2.2.2.2.2.2.1 St.2.2.2.2.2.2.2.2.2.2.2.2.2.2.1 St.2.2.2.2.2.2.2.2.2.2.2.2.2.2.2, bClaims k (ut 1) St.1 St.2.1 St.2.2.1 St.2.2.2.1 St.2.2.2.2.1 St.2.2.2.2.2.1, bRacks k (ut 2) St.2.2.2.2.2.2.1 St.2.2.2.2.2.2.2.1, bLog k (ut 3) St.2.2.2.2.2.2.2.2.1 St.2.2.2.2.2.2.2.2.2.1 St.2.2.2.2.2.2.2.2.2.2.1 St.2.2.2.2.2.2.2.2.2.2.2.1, bCT k tx sg tl fo va cm vc sp, bC60 k sg ts, bGI k va gi, bG3 k gi V, bFO k fo fs, bC19 k li le, bAcc k qk lf, bCirc k qq rd, bCh k co T.1 T.2.1 T.2.2.1 T.2.2.2.1, bGL k T.1 T.2.2.2.2.1, bGL k T.2.1 T.2.2.2.2.2.1, bGr k T.2.2.2.2.1 T.2.2.2.2.2.2.1, bGr k T.2.2.2.2.2.1 T.2.2.2.2.2.2.2.1, bL10 k T.2.2.1 T.2.2.2.2.2.2.2.2.1, bL10 k T.2.2.2.1 T.2.2.2.2.2.2.2.2.2, bMO k mq th ea fa ch tn he en ln svb wr dg, bI83 k (mq 1) v, bI83 k (mq 2) be, bI83 k (mq 3) sd, bI664 k (mq 4) pm, bI10 k (mq 5) rc, bF10 k (mq 6) f, bF10 k (mq 7) fb, bF10 k (mq 8) fd, bF80 k (mq 9) fp, bF10 k (mq 10) nx, bF10 k (mq 11) as9, bL10 k (mq 12) wy, bL10 k (mq 13) mo, bI60 k (mq 14) tx9, bI24 k (mq 15) li9, bI10 k (mq 16) il, bI59 k (mq 17) wdK, bI11 k (mq 18) waI, bL1 k out ou, bD1 k outd od] : List va_W).flatten)).Perm (sx k (U i9) (PS i9) ++ (plB k (upU U i9 ub) (upS PS i9 Sb) ++ ([bRO k o rn rb pa pn pk (uv 0 0) iz (ut 0 0) tx er fl li ll (qk 0) (qq 0) co, bPA k pa g9, bSt k (un 0) (un 1) (un 2) (un 3) S.2.2.2.2.2.2.2.2.2.2.2.2.1 S.2.2.2.2.2.2.2.2.2.2.2.2.2.1 S.2.2.2.2.2.2.2.2.2.2.2.2.2.2.1 S.2.2.2.2.2.2.2.2.2.2.2.2.2.2.2, bClaims k (un 1) S.1 S.2.1 S.2.2.1 S.2.2.2.1 S.2.2.2.2.1 S.2.2.2.2.2.1, bRacks k (un 2) S.2.2.2.2.2.2.1 S.2.2.2.2.2.2.2.1, bLog k (un 3) S.2.2.2.2.2.2.2.2.1 S.2.2.2.2.2.2.2.2.2.1 S.2.2.2.2.2.2.2.2.2.2.1 S.2.2.2.2.2.2.2.2.2.2.2.1, bSt k (uv 0) (uv 1) (uv 2) (uv 3) Sv.2.2.2.2.2.2.2.2.2.2.2.2.1 Sv.2.2.2.2.2.2.2.2.2.2.2.2.2.1 Sv.2.2.2.2.2.2.2.2.2.2.2.2.2.2.1 Sv.2.2.2.2.2.2.2.2.2.2.2.2.2.2.2, bClaims k (uv 1) Sv.1 Sv.2.1 Sv.2.2.1 Sv.2.2.2.1 Sv.2.2.2.2.1 Sv.2.2.2.2.2.1, bRacks k (uv 2) Sv.2.2.2.2.2.2.1 Sv.2.2.2.2.2.2.2.1, bLog k (uv 3) Sv.2.2.2.2.2.2.2.2.1 Sv.2.2.2.2.2.2.2.2.2.1 Sv.2.2.2.2.2.2.2.2.2.2.1 Sv.2.2.2.2.2.2.2.2.2.2.2.1, bSt k (ut 0) (ut 1) (ut 2) (ut 3) St.2.2.2.2.2.2.2.2.2.2.2.2.1 St.2.2.2.2.2.2.2.2.2.2.2.2.2.1 St.2.2.2.2.2.2.2.2.2.2.2.2.2.2.1 St.2.2.2.2.2.2.2.2.2.2.2.2.2.2.2, bClaims k (ut 1) St.1 St.2.1 St.2.2.1 St.2.2.2.1 St.2.2.2.2.1 St.2.2.2.2.2.1, bRacks k (ut 2) St.2.2.2.2.2.2.1 St.2.2.2.2.2.2.2.1, bLog k (ut 3) St.2.2.2.2.2.2.2.2.1 St.2.2.2.2.2.2.2.2.2.1 St.2.2.2.2.2.2.2.2.2.2.1 St.2.2.2.2.2.2.2.2.2.2.2.1, bCT k tx sg tl fo va cm vc sp, bC60 k sg ts, bGI k va gi, bG3 k gi V, bFO k fo fs, bC19 k li le, bAcc k qk lf, bCirc k qq rd, bCh k co T.1 T.2.1 T.2.2.1 T.2.2.2.1, bGL k T.1 T.2.2.2.2.1, bGL k T.2.1 T.2.2.2.2.2.1, bGr k T.2.2.2.2.1 T.2.2.2.2.2.2.1, bGr k T.2.2.2.2.2.1 T.2.2.2.2.2.2.2.1, bL10 k T.2.2.1 T.2.2.2.2.2.2.2.2.1, bL10 k T.2.2.2.1 T.2.2.2.2.2.2.2.2.2, bMO k mq th ea fa ch tn he en ln svb wr dg, bI83 k (mq 1) v, bI83 k (mq 2) be, bI83 k (mq 3) sd, bI664 k (mq 4) pm, bI10 k (mq 5) rc, bF10 k (mq 6) f, bF10 k (mq 7) fb, bF10 k (mq 8) fd, bF80 k (mq 9) fp, bF10 k (mq 10) nx, bF10 k (mq 11) as9, bL10 k (mq 12) wy, bL10 k (mq 13) mo, bI60 k (mq 14) tx9, bI24 k (mq 15) li9, bI10 k (mq 16) il, bI59 k (mq 17) wdK, bI11 k (mq 18) waI, bL1 k out ou, bD1 k outd od] : List va_W).flatten))
  rw [← List.append_assoc, ← List.append_assoc]
  exact List.Perm.append_right _ (pl_swap k h _ _ _ _)
set_option maxHeartbeats 4000000 in
set_option maxRecDepth 100000 in
theorem lb_swap_n (k : Nat → ClassId) (o pa tx sg fo va li co : Nat) (qk qq gi mq : Nat → Nat) (out outd rn rb : Nat) (g9 : Nat → Nat) (un : Nat → Nat → Nat) (S : SC) (ub : Nat → Nat → Nat) (Sb : SC) (uv : Nat → Nat → Nat) (Sv : SC) (ut : Nat → Nat → Nat) (St : SC) (U : Nat → Nat → Nat → Nat) (PS : Nat → SC) (pn pk : Nat) (iz : Bool) (er fl : Int32) (ll tl cm vc sp : Nat) (ts : Nat → Int32) (V : Nat → Nat → Int32) (fs : Nat → Option Nat) (le lf rd : Nat → Int32) (T : CT) (th ea fa : Int32) (ch tn he en ln : Nat) (svb wr dg : Bool) (v be sd pm rc : Nat → Int32) (f fb fd fp nx as9 : Nat → UInt32) (wy mo : Nat → Int64) (tx9 li9 il : Nat → Int32) (ou : Nat → Int64) (od : Nat → UInt64) {i9 : Nat} (h : i9 < 8) : (LBg k o pa tx sg fo va li co qk qq gi mq out outd rn rb g9 un S ub Sb uv Sv ut St U PS pn pk iz er fl ll tl cm vc sp ts V fs le lf rd T th ea fa ch tn he en ln svb wr dg v be sd pm rc f fb fd fp nx as9 wy mo tx9 li9 il ou od).flatten.Perm (LBg k o pa tx sg fo va li co qk qq gi mq out outd rn rb g9 (U i9) (PS i9) ub Sb uv Sv ut St (upU U i9 un) (upS PS i9 S) pn pk iz er fl ll tl cm vc sp ts V fs le lf rd T th ea fa ch tn he en ln svb wr dg v be sd pm rc f fb fd fp nx as9 wy mo tx9 li9 il ou od).flatten := by
  refine (lb_perm (LBg k o pa tx sg fo va li co qk qq gi mq out outd rn rb g9 un S ub Sb uv Sv ut St U PS pn pk iz er fl ll tl cm vc sp ts V fs le lf rd T th ea fa ch tn he en ln svb wr dg v be sd pm rc f fb fd fp nx as9 wy mo tx9 li9 il ou od) [2, 3, 4, 5] [18] [0, 1, 6, 7, 8, 9, 10, 11, 12, 13, 14, 15, 16, 17, 19, 20, 21, 22, 23, 24, 25, 26, 27, 28, 29, 30, 31, 32, 33, 34, 35, 36, 37, 38, 39, 40, 41, 42, 43, 44, 45, 46, 47, 48, 49, 50, 51, 52, 53, 54] rfl (by decide +kernel)).symm.trans (List.Perm.trans ?_ (lb_perm (LBg k o pa tx sg fo va li co qk qq gi mq out outd rn rb g9 (U i9) (PS i9) ub Sb uv Sv ut St (upU U i9 un) (upS PS i9 S) pn pk iz er fl ll tl cm vc sp ts V fs le lf rd T th ea fa ch tn he en ln svb wr dg v be sd pm rc f fb fd fp nx as9 wy mo tx9 li9 il ou od) [2, 3, 4, 5] [18] [0, 1, 6, 7, 8, 9, 10, 11, 12, 13, 14, 15, 16, 17, 19, 20, 21, 22, 23, 24, 25, 26, 27, 28, 29, 30, 31, 32, 33, 34, 35, 36, 37, 38, 39, 40, 41, 42, 43, 44, 45, 46, 47, 48, 49, 50, 51, 52, 53, 54] rfl (by decide +kernel)))
  show (sx k un S ++ (plB k U PS ++ ([bRO k o rn rb pa pn pk (uv 0 0) iz (ut 0 0) tx er fl li ll (qk 0) (qq 0) co, bPA k pa g9, bSt k (ub 0) (ub 1) (ub 2) (ub 3) Sb.2.2.2.2.2.2.2.2.2.2.2.2.1 Sb.2.2.2.2.2.2.2.2.2.2.2.2.2.1 Sb.2.2.2.2.2.2.2.2.2.2.2.2.2.2.1 Sb.2.2.2.2.2.2.2.2.2.2.2.2.2.2.2, bClaims k (ub 1) Sb.1 Sb.2.1 Sb.2.2.1 Sb.2.2.2.1 Sb.2.2.2.2.1 Sb.2.2.2.2.2.1, bRacks k (ub 2) Sb.2.2.2.2.2.2.1 Sb.2.2.2.2.2.2.2.1, bLog k (ub 3) Sb.2.2.2.2.2.2.2.2.1 Sb.2.2.2.2.2.2.2.2.2.1 Sb.2.2.2.2.2.2.2.2.2.2.1 Sb.2.2.2.2.2.2.2.2.2.2.2.1, bSt k (uv 0) (uv 1) (uv 2) (uv 3) Sv.2.2.2.2.2.2.2.2.2.2.2.2.1 Sv.2.2.2.2.2.2.2.2.2.2.2.2.2.1 Sv.2.2.2.2.2.2.2.2.2.2.2.2.2.2.1 Sv.2.2.2.2.2.2.2.2.2.2.2.2.2.2.2, bClaims k (uv 1) Sv.1 Sv.2.1 Sv.2.2.1 Sv.2.2.2.1 Sv.2.2.2.2.1 Sv.2.2.2.2.2.1, bRacks k (uv 2) Sv.2.2.2.2.2.2.1 Sv.2.2.2.2.2.2.2.1, bLog k (uv 3) Sv.2.2.2.2.2.2.2.2.1 Sv.2.2.2.2.2.2.2.2.2.1 Sv.2.2.2.2.2.2.2.2.2.2.1 Sv.2.2.2.2.2.2.2.2.2.2.2.1, bSt k (ut 0) (ut 1) (ut 2) (ut 3) St.2.2.2.2.2.2.2.2.2.2.2.2.1 St.2.2.2.2.2.2.2.2.2.2.2.2.2.1 St.2.2.2.2.2.2.2.2.2.2.2.2.2.2.1 St.2.2.2.2.2.2.2.2.2.2.2.2.2.2.2, bClaims k (ut 1) St.1 St.2.1 St.2.2.1 St.2.2.2.1 St.2.2.2.2.1 St.2.2.2.2.2.1, bRacks k (ut 2) St.2.2.2.2.2.2.1 St.2.2.2.2.2.2.2.1, bLog k (ut 3) St.2.2.2.2.2.2.2.2.1 St.2.2.2.2.2.2.2.2.2.1 St.2.2.2.2.2.2.2.2.2.2.1 St.2.2.2.2.2.2.2.2.2.2.2.1, bCT k tx sg tl fo va cm vc sp, bC60 k sg ts, bGI k va gi, bG3 k gi V, bFO k fo fs, bC19 k li le, bAcc k qk lf, bCirc k qq rd, bCh k co T.1 T.2.1 T.2.2.1 T.2.2.2.1, bGL k T.1 T.2.2.2.2.1, bGL k T.2.1 T.2.2.2.2.2.1, bGr k T.2.2.2.2.1 T.2.2.2.2.2.2.1, bGr k T.2.2.2.2.2.1 T.2.2.2.2.2.2.2.1, bL10 k T.2.2.1 T.2.2.2.2.2.2.2.2.1, bL10 k T.2.2.2.1 T.2.2.2.2.2.2.2.2.2, bMO k mq th ea fa ch tn he en ln svb wr dg, bI83 k (mq 1) v, bI83 k (mq 2) be, bI83 k (mq 3) sd, bI664 k (mq 4) pm, bI10 k (mq 5) rc, bF10 k (mq 6) f, bF10 k (mq 7) fb, bF10 k (mq 8) fd, bF80 k (mq 9) fp, bF10 k (mq 10) nx, bF10 k (mq 11) as9, bL10 k (mq 12) wy, bL10 k (mq 13) mo, bI60 k (mq 14) tx9, bI24 k (mq 15) li9, bI10 k (mq 16) il, bI59 k (mq 17) wdK, bI11 k (mq 18) waI, bL1 k out ou, bD1 k outd od] : List va_W).flatten)).Perm (sx k (U i9) (PS i9) ++ (plB k (upU U i9 un) (upS PS i9 S) ++ ([bRO k o rn rb pa pn pk (uv 0 0) iz (ut 0 0) tx er fl li ll (qk 0) (qq 0) co, bPA k pa g9, bSt k (ub 0) (ub 1) (ub 2) (ub 3) Sb.2.2.2.2.2.2.2.2.2.2.2.2.1 Sb.2.2.2.2.2.2.2.2.2.2.2.2.2.1 Sb.2.2.2.2.2.2.2.2.2.2.2.2.2.2.1 Sb.2.2.2.2.2.2.2.2.2.2.2.2.2.2.2, bClaims k (ub 1) Sb.1 Sb.2.1 Sb.2.2.1 Sb.2.2.2.1 Sb.2.2.2.2.1 Sb.2.2.2.2.2.1, bRacks k (ub 2) Sb.2.2.2.2.2.2.1 Sb.2.2.2.2.2.2.2.1, bLog k (ub 3) Sb.2.2.2.2.2.2.2.2.1 Sb.2.2.2.2.2.2.2.2.2.1 Sb.2.2.2.2.2.2.2.2.2.2.1 Sb.2.2.2.2.2.2.2.2.2.2.2.1, bSt k (uv 0) (uv 1) (uv 2) (uv 3) Sv.2.2.2.2.2.2.2.2.2.2.2.2.1 Sv.2.2.2.2.2.2.2.2.2.2.2.2.2.1 Sv.2.2.2.2.2.2.2.2.2.2.2.2.2.2.1 Sv.2.2.2.2.2.2.2.2.2.2.2.2.2.2.2, bClaims k (uv 1) Sv.1 Sv.2.1 Sv.2.2.1 Sv.2.2.2.1 Sv.2.2.2.2.1 Sv.2.2.2.2.2.1, bRacks k (uv 2) Sv.2.2.2.2.2.2.1 Sv.2.2.2.2.2.2.2.1, bLog k (uv 3) Sv.2.2.2.2.2.2.2.2.1 Sv.2.2.2.2.2.2.2.2.2.1 Sv.2.2.2.2.2.2.2.2.2.2.1 Sv.2.2.2.2.2.2.2.2.2.2.2.1, bSt k (ut 0) (ut 1) (ut 2) (ut 3) St.2.2.2.2.2.2.2.2.2.2.2.2.1 St.2.2.2.2.2.2.2.2.2.2.2.2.2.1 St.2.2.2.2.2.2.2.2.2.2.2.2.2.2.1 St.2.2.2.2.2.2.2.2.2.2.2.2.2.2.2, bClaims k (ut 1) St.1 St.2.1 St.2.2.1 St.2.2.2.1 St.2.2.2.2.1 St.2.2.2.2.2.1, bRacks k (ut 2) St.2.2.2.2.2.2.1 St.2.2.2.2.2.2.2.1, bLog k (ut 3) St.2.2.2.2.2.2.2.2.1 St.2.2.2.2.2.2.2.2.2.1 St.2.2.2.2.2.2.2.2.2.2.1 St.2.2.2.2.2.2.2.2.2.2.2.1, bCT k tx sg tl fo va cm vc sp, bC60 k sg ts, bGI k va gi, bG3 k gi V, bFO k fo fs, bC19 k li le, bAcc k qk lf, bCirc k qq rd, bCh k co T.1 T.2.1 T.2.2.1 T.2.2.2.1, bGL k T.1 T.2.2.2.2.1, bGL k T.2.1 T.2.2.2.2.2.1, bGr k T.2.2.2.2.1 T.2.2.2.2.2.2.1, bGr k T.2.2.2.2.2.1 T.2.2.2.2.2.2.2.1, bL10 k T.2.2.1 T.2.2.2.2.2.2.2.2.1, bL10 k T.2.2.2.1 T.2.2.2.2.2.2.2.2.2, bMO k mq th ea fa ch tn he en ln svb wr dg, bI83 k (mq 1) v, bI83 k (mq 2) be, bI83 k (mq 3) sd, bI664 k (mq 4) pm, bI10 k (mq 5) rc, bF10 k (mq 6) f, bF10 k (mq 7) fb, bF10 k (mq 8) fd, bF80 k (mq 9) fp, bF10 k (mq 10) nx, bF10 k (mq 11) as9, bL10 k (mq 12) wy, bL10 k (mq 13) mo, bI60 k (mq 14) tx9, bI24 k (mq 15) li9, bI10 k (mq 16) il, bI59 k (mq 17) wdK, bI11 k (mq 18) waI, bL1 k out ou, bD1 k outd od] : List va_W).flatten))
  rw [← List.append_assoc, ← List.append_assoc]
  exact List.Perm.append_right _ (pl_swap k h _ _ _ _)
/-- what a number says that may be unset -/
def ErR (er ea : Int32) : Prop := er = ea ∧ (er = -1 ∨ 0 ≤ er)
/-- what holds at the loop's head -/
def LF (S Sv : SC) (PS : Nat → SC) (pn pk : Nat) (iz : Bool) (er fl : Int32) (ll tl cm vc sp : Nat) (ts le : Nat → Int32) (ea fa : Int32) (ch tn ln : Nat) (svb : Bool) (v sd pm : Nat → Int32) (f fd fp : Nat → UInt32) (tx9 li9 : Nat → Int32) : Prop :=
  RelG S v f ∧ (PastR pn pk PS pm fp ∧ pk = ch) ∧ (iz = svb ∧ (iz = true → RelG Sv sd fd)) ∧ (ErR er ea ∧ ErR fl fa) ∧ (tl = tn ∧ tl ≤ 60 ∧ (∀ p, sgn ts tl p = sgn tx9 tl p) ∧ tsOk ts tl) ∧ (LnR (le, ll) (li9, ln) ∧ ll ≤ 19 ∧ chOk le 19) ∧ (vc ≤ 3 ∧ cm ≤ 10 ∧ sp ≤ 60)
