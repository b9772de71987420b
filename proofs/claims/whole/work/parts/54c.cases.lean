/-! The law's cases 20 to 35, over worlds in pieces. -/
section LAWC
variable {p : Program} {l : Launch} {e : Env} {s : State} {m : MethodId} {below : List Frame} {meth : Method} {c : Code} {H : Heap} {locs : List Loc} {cells slots : Nat} {Q : State → Prop}
variable {ls : Array Slot} {D : va_G} {k : Nat → ClassId} {A : Nat → Prop} {wc wc' wd wd' wm we wr : va_W} {ks kv kf : Nat → Nat} {ka kw b L o q0 out outd i9 : Nat} {xs : Nat → Int32} {fs1 fs2 fs3 : List Value} {kr th bv : Int32} {rm1 rm2 rm3 : Room}

set_option maxHeartbeats 4000000 in
set_option maxRecDepth 100000 in
theorem lc_20 {br : Int32} {ou : Nat → Int64} (ho : wc'[i9]? = some (out, .inl (k 3, 1, .inr (.inl ou)))) (C9 : LC ks kv kf ka kw D k p s m c A b L xs)
    (hc : cells + 1 ≤ 603072)
    (hsl : slots + 6 ≤ 7182442)
    (j : Nat)
    (hj : 4 * j + 4 ≤ L)
    (hL : L ≤ 2048)
    (hr1 : rm1.cells = 1 ∧ rm1.slots = 6 ∧ rm1.frames + 1 ≤ 2048 ∧ 8 + (6 + 11) + rm1.locals ≤ 94400) (M1 : Met l yL_chainsBySteps wsL_chainsBySteps rm1 (LPc ks kv kf ka kw D k [.ref o, .int (xs (4 * j + 1)), .int (xs (4 * j + 2)), .int (xs (4 * j + 3)), .ref out] wc H.size) (WI D k wc' kr (va_A wc H.size)) 1 6 (va_A wc H.size))
    (hr2 : rm2.cells = 0 ∧ rm2.slots = 0 ∧ rm2.frames + 1 ≤ 2048 ∧ 8 + (4 + 11) + rm2.locals ≤ 94400) (M2 : ∀ sz : Nat, Met l yX13_chainsBySteps wsX13_chainsBySteps rm2 (WPc D k [.ref q0, .int (xs (4 * j + 1)), .int (xs (4 * j + 2)), .int (xs (4 * j + 3))] wd sz) (WI D k wd' br (va_A wd sz)) 0 0 (va_A wd sz)) (h2 : wd[0]? = some (q0, .inr (11, fs2)))
    (hr3 : rm3.cells = 0 ∧ rm3.slots = 0 ∧ rm3.frames + 1 ≤ 2048 ∧ 8 + (1 + 11) + rm3.locals ≤ 94400) (M3 : Met l yX13_thrown wsX13_thrown rm3 (RPc D k [.ref q0] wm) (EI th) 0 0 noA) (hm : wd' = wm ++ we) (h3 : wm[0]? = some (q0, .inr (11, fs3)))
    (hth : th = kr)
    (heq : kr = 0 → ou 0 = br.toInt64)
    (hP : va_P D vwCl (wc ++ (wd ++ wr)) H)
    (hD : va_D A (wc ++ (wd ++ wr)))
    (hS : va_S A s.heap H locs)
    (hl : lv_has ls 10 [(0, .ref b), (1, .ref o), (2, .ref q0), (3, .ref out), (4, .ref outd), (5, .int (nI (4 * j)))])
    (kk : ∀ (ls : Array Slot) (H : Heap) (locs : List Loc), lv_has ls 10 [(0, .ref b), (1, .ref o), (2, .ref q0), (3, .ref out), (4, .ref outd), (5, .int (nI (4 * j)))] → va_P D vwCl (wc' ++ (wd' ++ wr)) H → va_D A (wc' ++ (wd' ++ wr)) → va_S A s.heap H locs → W p l e room_1 s m #[Value.ref b] below meth c H locs (cells + 1) (slots + 6) Q (F0 m 2694 ls [])) : W p l e room_1 s m #[Value.ref b] below meth c H locs cells slots Q (F0 m 1078 ls []) := by
  obtain ⟨hF, hK, hN, hXN, hNC, hZ, hKC, hA, hX, hbl, hbA⟩ := id C9
  obtain ⟨hx, hb, hml, hown, hts⟩ := id hF
  refine lv_aload_n hx hb dL_law_1078 rfl (lv_at hl 1 rfl) ?_
  refine lv_aload_n hx hb dL_law_1079 rfl (lv_at hl 0 rfl) ?_
  refine lv_iload hx hb dL_law_1080 (lv_at hl 5 rfl) ?_
  refine lv_iconst (v := 1) hx hb dL_law_1082 (by decide) ?_
  refine ni_add hx hb (4 * j) 1 dL_law_1083 ?_
  refine l_sld C9 hS (4 * j + 1) (by omega) hL dL_law_1084 ?_
  refine lv_aload_n hx hb dL_law_1085 rfl (lv_at hl 0 rfl) ?_
  refine lv_iload hx hb dL_law_1086 (lv_at hl 5 rfl) ?_
  refine lv_iconst (v := 2) hx hb dL_law_1088 (by decide) ?_
  refine ni_add hx hb (4 * j) 2 dL_law_1089 ?_
  refine l_sld C9 hS (4 * j + 2) (by omega) hL dL_law_1090 ?_
  refine lv_aload_n hx hb dL_law_1091 rfl (lv_at hl 0 rfl) ?_
  refine lv_iload hx hb dL_law_1092 (lv_at hl 5 rfl) ?_
  refine lv_iconst (v := 3) hx hb dL_law_1094 (by decide) ?_
  refine ni_add hx hb (4 * j) 3 dL_law_1095 ?_
  refine l_sld C9 hS (4 * j + 3) (by omega) hL dL_law_1096 ?_
  refine lv_aload_n hx hb dL_law_1097 rfl (lv_at hl 3 rfl) ?_
  refine lw_S C9 (As := [.ref o, .int (xs (4 * j + 1)), .int (xs (4 * j + 2)), .int (xs (4 * j + 3)), .ref out]) (rest := []) gL_law_L_chainsBySteps rfl (maxL := 6) hr1 (n := 5) (by decide +kernel) rfl M1 hc hsl hP hD hS hl.1 rfl (Nat.le_of_ble_eq_true rfl) dL_law_1098 (fun H locs hP hD hS => ?_)
  refine lv_istore (lv' := [(6, .int kr), (0, .ref b), (1, .ref o), (2, .ref q0), (3, .ref out), (4, .ref outd), (5, .int (nI (4 * j)))]) hx hb dL_law_1101 hl (by decide) rfl (fun ls hl => ?_)
  refine lv_aload_n hx hb dL_law_1103 rfl (lv_at hl 3 rfl) ?_
  refine lv_aload_n hx hb dL_law_1104 rfl (lv_at hl 1 rfl) ?_
  refine lv_iload hx hb dL_law_1105 (lv_at hl 6 rfl) ?_
  refine lv_iconst (v := 1) hx hb dL_law_1107 (by decide) ?_
  refine ni_add hx hb (4 * j) 1 dL_law_1108 ?_
  refine l_sld C9 hS (4 * j + 1) (by omega) hL dL_law_1109 ?_
  refine lv_aload_n hx hb dL_law_1110 rfl (lv_at hl 1 rfl) ?_
  refine lv_iload hx hb dL_law_1111 (lv_at hl 6 rfl) ?_
  refine lv_iconst (v := 2) hx hb dL_law_1113 (by decide) ?_
  refine ni_add hx hb (4 * j) 2 dL_law_1114 ?_
  refine l_sld C9 hS (4 * j + 2) (by omega) hL dL_law_1115 ?_
  refine lv_aload_n hx hb dL_law_1116 rfl (lv_at hl 1 rfl) ?_
  refine lv_iload hx hb dL_law_1117 (lv_at hl 6 rfl) ?_
  refine lv_iconst (v := 3) hx hb dL_law_1119 (by decide) ?_
  refine ni_add hx hb (4 * j) 3 dL_law_1120 ?_
  refine l_sld C9 hS (4 * j + 3) (by omega) hL dL_law_1121 ?_
  have hP := l_swP hP
  have hD := l_swD hD
  refine lw_Vi C9 (As := [.int (xs (4 * j + 1)), .int (xs (4 * j + 2)), .int (xs (4 * j + 3))]) (rest := []) gL_law_X13_chainsBySteps rfl (maxL := 4) hr2 (n := 3) (by decide +kernel) rfl h2 (r9 := _) rfl rfl (M2 _) hc hsl hP hD hS hl.1 rfl (Nat.le_of_ble_eq_true rfl) dL_law_1122 (fun H locs hP hD hS => ?_)
  refine lv_istore (lv' := [(7, .int br), (6, .int kr), (0, .ref b), (1, .ref o), (2, .ref q0), (3, .ref out), (4, .ref outd), (5, .int (nI (4 * j)))]) hx hb dL_law_1125 hl (by decide) rfl (fun ls hl => ?_)
  refine lv_aload_n hx hb dL_law_1127 rfl (lv_at hl 4 rfl) ?_
  refine lw_Ri C9 (As := []) (rest := []) gL_law_X13_thrown rfl (maxL := 1) hr3 (n := 0) (by decide +kernel) rfl h3 (r9 := _) rfl rfl M3 hc hsl (l_P1 (wr := we) (by rw [← hm]; exact l_P1 hP)) hl.1 rfl (Nat.le_of_ble_eq_true rfl) dL_law_1128 ?_
  refine lv_iload hx hb dL_law_1131 (lv_at hl 1 rfl) ?_
  refine lv_icmp_eq (tgt := 1138) hx hb dL_law_1133 (by decide) (fun c_1 => ?_) (fun c_1 => ?_)
  · skip
    refine lv_iload hx hb dL_law_1138 (lv_at hl 1 rfl) ?_
    refine lv_if_ne (tgt := 1155) hx hb dL_law_1140 (by decide) (fun c_2 => ?_) (fun c_2 => ?_)
    · skip
      refine lv_goto (tgt := 2694) hx hb dL_law_1155 (by decide) ?_
      have hP := l_swP hP
      have hD := l_swD hD
      exact kk ls H locs (lv_sub hl [2, 3, 4, 5, 6, 7] rfl) hP hD hS
    · skip
      refine lv_aload_n hx hb dL_law_1143 rfl (lv_at hl 5 rfl) ?_
      refine lv_iconst (v := 0) hx hb dL_law_1144 (by decide) ?_
      have hP := l_swP hP
      have hD := l_swD hD
      refine l_la C9 (l_P1 hP) ho dL_law_1145 ?_
      refine lv_iload hx hb dL_law_1146 (lv_at hl 0 rfl) ?_
      refine lv_i2l hx hb dL_law_1148 rfl ?_
      refine W.lcmp hx hb dL_law_1149 ?_
      refine lv_if_eq (tgt := 1155) hx hb dL_law_1150 (by decide) (fun c_3 => ?_) (fun c_3 => ?_)
      · skip
        refine lv_goto (tgt := 2694) hx hb dL_law_1155 (by decide) ?_
        exact kk ls H locs (lv_sub hl [2, 3, 4, 5, 6, 7] rfl) hP hD hS
      · exact absurd (l_cmp0 (heq c_2)) c_3
  · exact absurd hth c_1

set_option maxHeartbeats 4000000 in
set_option maxRecDepth 100000 in
theorem lc_21 {br : Int32} {ou : Nat → Int64} (ho : wc'[i9]? = some (out, .inl (k 3, 1, .inr (.inl ou)))) (C9 : LC ks kv kf ka kw D k p s m c A b L xs)
    (hc : cells + 1 ≤ 603072)
    (hsl : slots + 6 ≤ 7182442)
    (j : Nat)
    (hj : 4 * j + 4 ≤ L)
    (hL : L ≤ 2048)
    (hr1 : rm1.cells = 1 ∧ rm1.slots = 6 ∧ rm1.frames + 1 ≤ 2048 ∧ 8 + (5 + 11) + rm1.locals ≤ 94400) (M1 : Met l yL_setRack wsL_setRack rm1 (LPc ks kv kf ka kw D k [.ref o, .int (xs (4 * j + 1)), .int (((xs (4 * j + 2)).toUInt32 % 65536).toInt32), .ref out] wc H.size) (WI D k wc' kr (va_A wc H.size)) 1 6 (va_A wc H.size))
    (hr2 : rm2.cells = 0 ∧ rm2.slots = 0 ∧ rm2.frames + 1 ≤ 2048 ∧ 8 + (3 + 11) + rm2.locals ≤ 94400) (M2 : ∀ sz : Nat, Met l yX13_setRack wsX13_setRack rm2 (WPc D k [.ref q0, .int (xs (4 * j + 1)), .int (((xs (4 * j + 2)).toUInt32 % 65536).toInt32)] wd sz) (WI D k wd' br (va_A wd sz)) 0 0 (va_A wd sz)) (h2 : wd[0]? = some (q0, .inr (11, fs2)))
    (hr3 : rm3.cells = 0 ∧ rm3.slots = 0 ∧ rm3.frames + 1 ≤ 2048 ∧ 8 + (1 + 11) + rm3.locals ≤ 94400) (M3 : Met l yX13_thrown wsX13_thrown rm3 (RPc D k [.ref q0] wm) (EI th) 0 0 noA) (hm : wd' = wm ++ we) (h3 : wm[0]? = some (q0, .inr (11, fs3)))
    (hth : th = kr)
    (heq : kr = 0 → ou 0 = br.toInt64)
    (hP : va_P D vwCl (wc ++ (wd ++ wr)) H)
    (hD : va_D A (wc ++ (wd ++ wr)))
    (hS : va_S A s.heap H locs)
    (hl : lv_has ls 10 [(0, .ref b), (1, .ref o), (2, .ref q0), (3, .ref out), (4, .ref outd), (5, .int (nI (4 * j)))])
    (kk : ∀ (ls : Array Slot) (H : Heap) (locs : List Loc), lv_has ls 10 [(0, .ref b), (1, .ref o), (2, .ref q0), (3, .ref out), (4, .ref outd), (5, .int (nI (4 * j)))] → va_P D vwCl (wc' ++ (wd' ++ wr)) H → va_D A (wc' ++ (wd' ++ wr)) → va_S A s.heap H locs → W p l e room_1 s m #[Value.ref b] below meth c H locs (cells + 1) (slots + 6) Q (F0 m 2694 ls [])) : W p l e room_1 s m #[Value.ref b] below meth c H locs cells slots Q (F0 m 1158 ls []) := by
  obtain ⟨hF, hK, hN, hXN, hNC, hZ, hKC, hA, hX, hbl, hbA⟩ := id C9
  obtain ⟨hx, hb, hml, hown, hts⟩ := id hF
  refine lv_aload_n hx hb dL_law_1158 rfl (lv_at hl 1 rfl) ?_
  refine lv_aload_n hx hb dL_law_1159 rfl (lv_at hl 0 rfl) ?_
  refine lv_iload hx hb dL_law_1160 (lv_at hl 5 rfl) ?_
  refine lv_iconst (v := 1) hx hb dL_law_1162 (by decide) ?_
  refine ni_add hx hb (4 * j) 1 dL_law_1163 ?_
  refine l_sld C9 hS (4 * j + 1) (by omega) hL dL_law_1164 ?_
  refine lv_aload_n hx hb dL_law_1165 rfl (lv_at hl 0 rfl) ?_
  refine lv_iload hx hb dL_law_1166 (lv_at hl 5 rfl) ?_
  refine lv_iconst (v := 2) hx hb dL_law_1168 (by decide) ?_
  refine ni_add hx hb (4 * j) 2 dL_law_1169 ?_
  refine l_sld C9 hS (4 * j + 2) (by omega) hL dL_law_1170 ?_
  refine lv_i2c (v := ((xs (4 * j + 2)).toUInt32 % 65536).toInt32) hx hb dL_law_1171 rfl ?_
  refine lv_aload_n hx hb dL_law_1172 rfl (lv_at hl 3 rfl) ?_
  refine lw_S C9 (As := [.ref o, .int (xs (4 * j + 1)), .int (((xs (4 * j + 2)).toUInt32 % 65536).toInt32), .ref out]) (rest := []) gL_law_L_setRack rfl (maxL := 5) hr1 (n := 4) (by decide +kernel) rfl M1 hc hsl hP hD hS hl.1 rfl (Nat.le_of_ble_eq_true rfl) dL_law_1173 (fun H locs hP hD hS => ?_)
  refine lv_istore (lv' := [(6, .int kr), (0, .ref b), (1, .ref o), (2, .ref q0), (3, .ref out), (4, .ref outd), (5, .int (nI (4 * j)))]) hx hb dL_law_1176 hl (by decide) rfl (fun ls hl => ?_)
  refine lv_aload_n hx hb dL_law_1178 rfl (lv_at hl 3 rfl) ?_
  refine lv_aload_n hx hb dL_law_1179 rfl (lv_at hl 1 rfl) ?_
  refine lv_iload hx hb dL_law_1180 (lv_at hl 6 rfl) ?_
  refine lv_iconst (v := 1) hx hb dL_law_1182 (by decide) ?_
  refine ni_add hx hb (4 * j) 1 dL_law_1183 ?_
  refine l_sld C9 hS (4 * j + 1) (by omega) hL dL_law_1184 ?_
  refine lv_aload_n hx hb dL_law_1185 rfl (lv_at hl 1 rfl) ?_
  refine lv_iload hx hb dL_law_1186 (lv_at hl 6 rfl) ?_
  refine lv_iconst (v := 2) hx hb dL_law_1188 (by decide) ?_
  refine ni_add hx hb (4 * j) 2 dL_law_1189 ?_
  refine l_sld C9 hS (4 * j + 2) (by omega) hL dL_law_1190 ?_
  refine lv_i2c (v := ((xs (4 * j + 2)).toUInt32 % 65536).toInt32) hx hb dL_law_1191 rfl ?_
  have hP := l_swP hP
  have hD := l_swD hD
  refine lw_Vi C9 (As := [.int (xs (4 * j + 1)), .int (((xs (4 * j + 2)).toUInt32 % 65536).toInt32)]) (rest := []) gL_law_X13_setRack rfl (maxL := 3) hr2 (n := 2) (by decide +kernel) rfl h2 (r9 := _) rfl rfl (M2 _) hc hsl hP hD hS hl.1 rfl (Nat.le_of_ble_eq_true rfl) dL_law_1192 (fun H locs hP hD hS => ?_)
  refine lv_istore (lv' := [(7, .int br), (6, .int kr), (0, .ref b), (1, .ref o), (2, .ref q0), (3, .ref out), (4, .ref outd), (5, .int (nI (4 * j)))]) hx hb dL_law_1195 hl (by decide) rfl (fun ls hl => ?_)
  refine lv_aload_n hx hb dL_law_1197 rfl (lv_at hl 4 rfl) ?_
  refine lw_Ri C9 (As := []) (rest := []) gL_law_X13_thrown rfl (maxL := 1) hr3 (n := 0) (by decide +kernel) rfl h3 (r9 := _) rfl rfl M3 hc hsl (l_P1 (wr := we) (by rw [← hm]; exact l_P1 hP)) hl.1 rfl (Nat.le_of_ble_eq_true rfl) dL_law_1198 ?_
  refine lv_iload hx hb dL_law_1201 (lv_at hl 1 rfl) ?_
  refine lv_icmp_eq (tgt := 1208) hx hb dL_law_1203 (by decide) (fun c_1 => ?_) (fun c_1 => ?_)
  · skip
    refine lv_iload hx hb dL_law_1208 (lv_at hl 1 rfl) ?_
    refine lv_if_ne (tgt := 1225) hx hb dL_law_1210 (by decide) (fun c_2 => ?_) (fun c_2 => ?_)
    · skip
      refine lv_goto (tgt := 2694) hx hb dL_law_1225 (by decide) ?_
      have hP := l_swP hP
      have hD := l_swD hD
      exact kk ls H locs (lv_sub hl [2, 3, 4, 5, 6, 7] rfl) hP hD hS
    · skip
      refine lv_aload_n hx hb dL_law_1213 rfl (lv_at hl 5 rfl) ?_
      refine lv_iconst (v := 0) hx hb dL_law_1214 (by decide) ?_
      have hP := l_swP hP
      have hD := l_swD hD
      refine l_la C9 (l_P1 hP) ho dL_law_1215 ?_
      refine lv_iload hx hb dL_law_1216 (lv_at hl 0 rfl) ?_
      refine lv_i2l hx hb dL_law_1218 rfl ?_
      refine W.lcmp hx hb dL_law_1219 ?_
      refine lv_if_eq (tgt := 1225) hx hb dL_law_1220 (by decide) (fun c_3 => ?_) (fun c_3 => ?_)
      · skip
        refine lv_goto (tgt := 2694) hx hb dL_law_1225 (by decide) ?_
        exact kk ls H locs (lv_sub hl [2, 3, 4, 5, 6, 7] rfl) hP hD hS
      · exact absurd (l_cmp0 (heq c_2)) c_3
  · exact absurd hth c_1

set_option maxHeartbeats 4000000 in
set_option maxRecDepth 100000 in
theorem lc_22 {br : Int32} {ou : Nat → Int64} (ho : wc'[i9]? = some (out, .inl (k 3, 1, .inr (.inl ou)))) (C9 : LC ks kv kf ka kw D k p s m c A b L xs)
    (hc : cells + 1 ≤ 603072)
    (hsl : slots + 6 ≤ 7182442)
    (j : Nat)
    (hj : 4 * j + 4 ≤ L)
    (hL : L ≤ 2048)
    (hr1 : rm1.cells = 1 ∧ rm1.slots = 6 ∧ rm1.frames + 1 ≤ 2048 ∧ 8 + (6 + 11) + rm1.locals ≤ 94400) (M1 : Met l yL_insert wsL_insert rm1 (LPc ks kv kf ka kw D k [.ref o, .int (xs (4 * j + 1)), .int (xs (4 * j + 2)), .int (((xs (4 * j + 3)).toUInt32 % 65536).toInt32), .ref out] wc H.size) (WI D k wc' kr (va_A wc H.size)) 1 6 (va_A wc H.size))
    (hr2 : rm2.cells = 0 ∧ rm2.slots = 0 ∧ rm2.frames + 1 ≤ 2048 ∧ 8 + (4 + 11) + rm2.locals ≤ 94400) (M2 : ∀ sz : Nat, Met l yX13_insert wsX13_insert rm2 (WPc D k [.ref q0, .int (xs (4 * j + 1)), .int (xs (4 * j + 2)), .int (((xs (4 * j + 3)).toUInt32 % 65536).toInt32)] wd sz) (WI D k wd' br (va_A wd sz)) 0 0 (va_A wd sz)) (h2 : wd[0]? = some (q0, .inr (11, fs2)))
    (hr3 : rm3.cells = 0 ∧ rm3.slots = 0 ∧ rm3.frames + 1 ≤ 2048 ∧ 8 + (1 + 11) + rm3.locals ≤ 94400) (M3 : Met l yX13_thrown wsX13_thrown rm3 (RPc D k [.ref q0] wm) (EI th) 0 0 noA) (hm : wd' = wm ++ we) (h3 : wm[0]? = some (q0, .inr (11, fs3)))
    (hth : th = kr)
    (heq : kr = 0 → ou 0 = br.toInt64)
    (hP : va_P D vwCl (wc ++ (wd ++ wr)) H)
    (hD : va_D A (wc ++ (wd ++ wr)))
    (hS : va_S A s.heap H locs)
    (hl : lv_has ls 10 [(0, .ref b), (1, .ref o), (2, .ref q0), (3, .ref out), (4, .ref outd), (5, .int (nI (4 * j)))])
    (kk : ∀ (ls : Array Slot) (H : Heap) (locs : List Loc), lv_has ls 10 [(0, .ref b), (1, .ref o), (2, .ref q0), (3, .ref out), (4, .ref outd), (5, .int (nI (4 * j)))] → va_P D vwCl (wc' ++ (wd' ++ wr)) H → va_D A (wc' ++ (wd' ++ wr)) → va_S A s.heap H locs → W p l e room_1 s m #[Value.ref b] below meth c H locs (cells + 1) (slots + 6) Q (F0 m 2694 ls [])) : W p l e room_1 s m #[Value.ref b] below meth c H locs cells slots Q (F0 m 1228 ls []) := by
  obtain ⟨hF, hK, hN, hXN, hNC, hZ, hKC, hA, hX, hbl, hbA⟩ := id C9
  obtain ⟨hx, hb, hml, hown, hts⟩ := id hF
  refine lv_aload_n hx hb dL_law_1228 rfl (lv_at hl 1 rfl) ?_
  refine lv_aload_n hx hb dL_law_1229 rfl (lv_at hl 0 rfl) ?_
  refine lv_iload hx hb dL_law_1230 (lv_at hl 5 rfl) ?_
  refine lv_iconst (v := 1) hx hb dL_law_1232 (by decide) ?_
  refine ni_add hx hb (4 * j) 1 dL_law_1233 ?_
  refine l_sld C9 hS (4 * j + 1) (by omega) hL dL_law_1234 ?_
  refine lv_aload_n hx hb dL_law_1235 rfl (lv_at hl 0 rfl) ?_
  refine lv_iload hx hb dL_law_1236 (lv_at hl 5 rfl) ?_
  refine lv_iconst (v := 2) hx hb dL_law_1238 (by decide) ?_
  refine ni_add hx hb (4 * j) 2 dL_law_1239 ?_
  refine l_sld C9 hS (4 * j + 2) (by omega) hL dL_law_1240 ?_
  refine lv_aload_n hx hb dL_law_1241 rfl (lv_at hl 0 rfl) ?_
  refine lv_iload hx hb dL_law_1242 (lv_at hl 5 rfl) ?_
  refine lv_iconst (v := 3) hx hb dL_law_1244 (by decide) ?_
  refine ni_add hx hb (4 * j) 3 dL_law_1245 ?_
  refine l_sld C9 hS (4 * j + 3) (by omega) hL dL_law_1246 ?_
  refine lv_i2c (v := ((xs (4 * j + 3)).toUInt32 % 65536).toInt32) hx hb dL_law_1247 rfl ?_
  refine lv_aload_n hx hb dL_law_1248 rfl (lv_at hl 3 rfl) ?_
  refine lw_S C9 (As := [.ref o, .int (xs (4 * j + 1)), .int (xs (4 * j + 2)), .int (((xs (4 * j + 3)).toUInt32 % 65536).toInt32), .ref out]) (rest := []) gL_law_L_insert rfl (maxL := 6) hr1 (n := 5) (by decide +kernel) rfl M1 hc hsl hP hD hS hl.1 rfl (Nat.le_of_ble_eq_true rfl) dL_law_1249 (fun H locs hP hD hS => ?_)
  refine lv_istore (lv' := [(6, .int kr), (0, .ref b), (1, .ref o), (2, .ref q0), (3, .ref out), (4, .ref outd), (5, .int (nI (4 * j)))]) hx hb dL_law_1252 hl (by decide) rfl (fun ls hl => ?_)
  refine lv_aload_n hx hb dL_law_1254 rfl (lv_at hl 3 rfl) ?_
  refine lv_aload_n hx hb dL_law_1255 rfl (lv_at hl 1 rfl) ?_
  refine lv_iload hx hb dL_law_1256 (lv_at hl 6 rfl) ?_
  refine lv_iconst (v := 1) hx hb dL_law_1258 (by decide) ?_
  refine ni_add hx hb (4 * j) 1 dL_law_1259 ?_
  refine l_sld C9 hS (4 * j + 1) (by omega) hL dL_law_1260 ?_
  refine lv_aload_n hx hb dL_law_1261 rfl (lv_at hl 1 rfl) ?_
  refine lv_iload hx hb dL_law_1262 (lv_at hl 6 rfl) ?_
  refine lv_iconst (v := 2) hx hb dL_law_1264 (by decide) ?_
  refine ni_add hx hb (4 * j) 2 dL_law_1265 ?_
  refine l_sld C9 hS (4 * j + 2) (by omega) hL dL_law_1266 ?_
  refine lv_aload_n hx hb dL_law_1267 rfl (lv_at hl 1 rfl) ?_
  refine lv_iload hx hb dL_law_1268 (lv_at hl 6 rfl) ?_
  refine lv_iconst (v := 3) hx hb dL_law_1270 (by decide) ?_
  refine ni_add hx hb (4 * j) 3 dL_law_1271 ?_
  refine l_sld C9 hS (4 * j + 3) (by omega) hL dL_law_1272 ?_
  refine lv_i2c (v := ((xs (4 * j + 3)).toUInt32 % 65536).toInt32) hx hb dL_law_1273 rfl ?_
  have hP := l_swP hP
  have hD := l_swD hD
  refine lw_Vi C9 (As := [.int (xs (4 * j + 1)), .int (xs (4 * j + 2)), .int (((xs (4 * j + 3)).toUInt32 % 65536).toInt32)]) (rest := []) gL_law_X13_insert rfl (maxL := 4) hr2 (n := 3) (by decide +kernel) rfl h2 (r9 := _) rfl rfl (M2 _) hc hsl hP hD hS hl.1 rfl (Nat.le_of_ble_eq_true rfl) dL_law_1274 (fun H locs hP hD hS => ?_)
  refine lv_istore (lv' := [(7, .int br), (6, .int kr), (0, .ref b), (1, .ref o), (2, .ref q0), (3, .ref out), (4, .ref outd), (5, .int (nI (4 * j)))]) hx hb dL_law_1277 hl (by decide) rfl (fun ls hl => ?_)
  refine lv_aload_n hx hb dL_law_1279 rfl (lv_at hl 4 rfl) ?_
  refine lw_Ri C9 (As := []) (rest := []) gL_law_X13_thrown rfl (maxL := 1) hr3 (n := 0) (by decide +kernel) rfl h3 (r9 := _) rfl rfl M3 hc hsl (l_P1 (wr := we) (by rw [← hm]; exact l_P1 hP)) hl.1 rfl (Nat.le_of_ble_eq_true rfl) dL_law_1280 ?_
  refine lv_iload hx hb dL_law_1283 (lv_at hl 1 rfl) ?_
  refine lv_icmp_eq (tgt := 1290) hx hb dL_law_1285 (by decide) (fun c_1 => ?_) (fun c_1 => ?_)
  · skip
    refine lv_iload hx hb dL_law_1290 (lv_at hl 1 rfl) ?_
    refine lv_if_ne (tgt := 1307) hx hb dL_law_1292 (by decide) (fun c_2 => ?_) (fun c_2 => ?_)
    · skip
      refine lv_goto (tgt := 2694) hx hb dL_law_1307 (by decide) ?_
      have hP := l_swP hP
      have hD := l_swD hD
      exact kk ls H locs (lv_sub hl [2, 3, 4, 5, 6, 7] rfl) hP hD hS
    · skip
      refine lv_aload_n hx hb dL_law_1295 rfl (lv_at hl 5 rfl) ?_
      refine lv_iconst (v := 0) hx hb dL_law_1296 (by decide) ?_
      have hP := l_swP hP
      have hD := l_swD hD
      refine l_la C9 (l_P1 hP) ho dL_law_1297 ?_
      refine lv_iload hx hb dL_law_1298 (lv_at hl 0 rfl) ?_
      refine lv_i2l hx hb dL_law_1300 rfl ?_
      refine W.lcmp hx hb dL_law_1301 ?_
      refine lv_if_eq (tgt := 1307) hx hb dL_law_1302 (by decide) (fun c_3 => ?_) (fun c_3 => ?_)
      · skip
        refine lv_goto (tgt := 2694) hx hb dL_law_1307 (by decide) ?_
        exact kk ls H locs (lv_sub hl [2, 3, 4, 5, 6, 7] rfl) hP hD hS
      · exact absurd (l_cmp0 (heq c_2)) c_3
  · exact absurd hth c_1

set_option maxHeartbeats 4000000 in
set_option maxRecDepth 100000 in
theorem lc_23 {br : Int32} {ou : Nat → Int64} (ho : wc'[i9]? = some (out, .inl (k 3, 1, .inr (.inl ou)))) (C9 : LC ks kv kf ka kw D k p s m c A b L xs)
    (hc : cells + 1 ≤ 603072)
    (hsl : slots + 6 ≤ 7182442)
    (j : Nat)
    (hj : 4 * j + 4 ≤ L)
    (hL : L ≤ 2048)
    (hr1 : rm1.cells = 1 ∧ rm1.slots = 6 ∧ rm1.frames + 1 ≤ 2048 ∧ 8 + (5 + 11) + rm1.locals ≤ 94400) (M1 : Met l yL_withdraw wsL_withdraw rm1 (LPc ks kv kf ka kw D k [.ref o, .int (xs (4 * j + 1)), .int (xs (4 * j + 2)), .ref out] wc H.size) (WI D k wc' kr (va_A wc H.size)) 1 6 (va_A wc H.size))
    (hr2 : rm2.cells = 0 ∧ rm2.slots = 0 ∧ rm2.frames + 1 ≤ 2048 ∧ 8 + (3 + 11) + rm2.locals ≤ 94400) (M2 : ∀ sz : Nat, Met l yX13_withdraw wsX13_withdraw rm2 (WPc D k [.ref q0, .int (xs (4 * j + 1)), .int (xs (4 * j + 2))] wd sz) (WI D k wd' br (va_A wd sz)) 0 0 (va_A wd sz)) (h2 : wd[0]? = some (q0, .inr (11, fs2)))
    (hr3 : rm3.cells = 0 ∧ rm3.slots = 0 ∧ rm3.frames + 1 ≤ 2048 ∧ 8 + (1 + 11) + rm3.locals ≤ 94400) (M3 : Met l yX13_thrown wsX13_thrown rm3 (RPc D k [.ref q0] wm) (EI th) 0 0 noA) (hm : wd' = wm ++ we) (h3 : wm[0]? = some (q0, .inr (11, fs3)))
    (hth : th = kr)
    (heq : kr = 0 → ou 0 = br.toInt64)
    (hP : va_P D vwCl (wc ++ (wd ++ wr)) H)
    (hD : va_D A (wc ++ (wd ++ wr)))
    (hS : va_S A s.heap H locs)
    (hl : lv_has ls 10 [(0, .ref b), (1, .ref o), (2, .ref q0), (3, .ref out), (4, .ref outd), (5, .int (nI (4 * j)))])
    (kk : ∀ (ls : Array Slot) (H : Heap) (locs : List Loc), lv_has ls 10 [(0, .ref b), (1, .ref o), (2, .ref q0), (3, .ref out), (4, .ref outd), (5, .int (nI (4 * j)))] → va_P D vwCl (wc' ++ (wd' ++ wr)) H → va_D A (wc' ++ (wd' ++ wr)) → va_S A s.heap H locs → W p l e room_1 s m #[Value.ref b] below meth c H locs (cells + 1) (slots + 6) Q (F0 m 2694 ls [])) : W p l e room_1 s m #[Value.ref b] below meth c H locs cells slots Q (F0 m 1310 ls []) := by
  obtain ⟨hF, hK, hN, hXN, hNC, hZ, hKC, hA, hX, hbl, hbA⟩ := id C9
  obtain ⟨hx, hb, hml, hown, hts⟩ := id hF
  refine lv_aload_n hx hb dL_law_1310 rfl (lv_at hl 1 rfl) ?_
  refine lv_aload_n hx hb dL_law_1311 rfl (lv_at hl 0 rfl) ?_
  refine lv_iload hx hb dL_law_1312 (lv_at hl 5 rfl) ?_
  refine lv_iconst (v := 1) hx hb dL_law_1314 (by decide) ?_
  refine ni_add hx hb (4 * j) 1 dL_law_1315 ?_
  refine l_sld C9 hS (4 * j + 1) (by omega) hL dL_law_1316 ?_
  refine lv_aload_n hx hb dL_law_1317 rfl (lv_at hl 0 rfl) ?_
  refine lv_iload hx hb dL_law_1318 (lv_at hl 5 rfl) ?_
  refine lv_iconst (v := 2) hx hb dL_law_1320 (by decide) ?_
  refine ni_add hx hb (4 * j) 2 dL_law_1321 ?_
  refine l_sld C9 hS (4 * j + 2) (by omega) hL dL_law_1322 ?_
  refine lv_aload_n hx hb dL_law_1323 rfl (lv_at hl 3 rfl) ?_
  refine lw_S C9 (As := [.ref o, .int (xs (4 * j + 1)), .int (xs (4 * j + 2)), .ref out]) (rest := []) gL_law_L_withdraw rfl (maxL := 5) hr1 (n := 4) (by decide +kernel) rfl M1 hc hsl hP hD hS hl.1 rfl (Nat.le_of_ble_eq_true rfl) dL_law_1324 (fun H locs hP hD hS => ?_)
  refine lv_istore (lv' := [(6, .int kr), (0, .ref b), (1, .ref o), (2, .ref q0), (3, .ref out), (4, .ref outd), (5, .int (nI (4 * j)))]) hx hb dL_law_1327 hl (by decide) rfl (fun ls hl => ?_)
  refine lv_aload_n hx hb dL_law_1329 rfl (lv_at hl 3 rfl) ?_
  refine lv_aload_n hx hb dL_law_1330 rfl (lv_at hl 1 rfl) ?_
  refine lv_iload hx hb dL_law_1331 (lv_at hl 6 rfl) ?_
  refine lv_iconst (v := 1) hx hb dL_law_1333 (by decide) ?_
  refine ni_add hx hb (4 * j) 1 dL_law_1334 ?_
  refine l_sld C9 hS (4 * j + 1) (by omega) hL dL_law_1335 ?_
  refine lv_aload_n hx hb dL_law_1336 rfl (lv_at hl 1 rfl) ?_
  refine lv_iload hx hb dL_law_1337 (lv_at hl 6 rfl) ?_
  refine lv_iconst (v := 2) hx hb dL_law_1339 (by decide) ?_
  refine ni_add hx hb (4 * j) 2 dL_law_1340 ?_
  refine l_sld C9 hS (4 * j + 2) (by omega) hL dL_law_1341 ?_
  have hP := l_swP hP
  have hD := l_swD hD
  refine lw_Vi C9 (As := [.int (xs (4 * j + 1)), .int (xs (4 * j + 2))]) (rest := []) gL_law_X13_withdraw rfl (maxL := 3) hr2 (n := 2) (by decide +kernel) rfl h2 (r9 := _) rfl rfl (M2 _) hc hsl hP hD hS hl.1 rfl (Nat.le_of_ble_eq_true rfl) dL_law_1342 (fun H locs hP hD hS => ?_)
  refine lv_istore (lv' := [(7, .int br), (6, .int kr), (0, .ref b), (1, .ref o), (2, .ref q0), (3, .ref out), (4, .ref outd), (5, .int (nI (4 * j)))]) hx hb dL_law_1345 hl (by decide) rfl (fun ls hl => ?_)
  refine lv_aload_n hx hb dL_law_1347 rfl (lv_at hl 4 rfl) ?_
  refine lw_Ri C9 (As := []) (rest := []) gL_law_X13_thrown rfl (maxL := 1) hr3 (n := 0) (by decide +kernel) rfl h3 (r9 := _) rfl rfl M3 hc hsl (l_P1 (wr := we) (by rw [← hm]; exact l_P1 hP)) hl.1 rfl (Nat.le_of_ble_eq_true rfl) dL_law_1348 ?_
  refine lv_iload hx hb dL_law_1351 (lv_at hl 1 rfl) ?_
  refine lv_icmp_eq (tgt := 1358) hx hb dL_law_1353 (by decide) (fun c_1 => ?_) (fun c_1 => ?_)
  · skip
    refine lv_iload hx hb dL_law_1358 (lv_at hl 1 rfl) ?_
    refine lv_if_ne (tgt := 1375) hx hb dL_law_1360 (by decide) (fun c_2 => ?_) (fun c_2 => ?_)
    · skip
      refine lv_goto (tgt := 2694) hx hb dL_law_1375 (by decide) ?_
      have hP := l_swP hP
      have hD := l_swD hD
      exact kk ls H locs (lv_sub hl [2, 3, 4, 5, 6, 7] rfl) hP hD hS
    · skip
      refine lv_aload_n hx hb dL_law_1363 rfl (lv_at hl 5 rfl) ?_
      refine lv_iconst (v := 0) hx hb dL_law_1364 (by decide) ?_
      have hP := l_swP hP
      have hD := l_swD hD
      refine l_la C9 (l_P1 hP) ho dL_law_1365 ?_
      refine lv_iload hx hb dL_law_1366 (lv_at hl 0 rfl) ?_
      refine lv_i2l hx hb dL_law_1368 rfl ?_
      refine W.lcmp hx hb dL_law_1369 ?_
      refine lv_if_eq (tgt := 1375) hx hb dL_law_1370 (by decide) (fun c_3 => ?_) (fun c_3 => ?_)
      · skip
        refine lv_goto (tgt := 2694) hx hb dL_law_1375 (by decide) ?_
        exact kk ls H locs (lv_sub hl [2, 3, 4, 5, 6, 7] rfl) hP hD hS
      · exact absurd (l_cmp0 (heq c_2)) c_3
  · exact absurd hth c_1

set_option maxHeartbeats 4000000 in
set_option maxRecDepth 100000 in
theorem lc_24 {br : Int32} {ou : Nat → Int64} (ho : wc'[i9]? = some (out, .inl (k 3, 1, .inr (.inl ou)))) (C9 : LC ks kv kf ka kw D k p s m c A b L xs)
    (hc : cells + 1 ≤ 603072)
    (hsl : slots + 6 ≤ 7182442)
    (j : Nat)
    (hj : 4 * j + 4 ≤ L)
    (hL : L ≤ 2048)
    (hr1 : rm1.cells = 1 ∧ rm1.slots = 6 ∧ rm1.frames + 1 ≤ 2048 ∧ 8 + (5 + 11) + rm1.locals ≤ 94400) (M1 : Met l yL_remarkAt wsL_remarkAt rm1 (LPc ks kv kf ka kw D k [.ref o, .int (xs (4 * j + 1)), .int (xs (4 * j + 2)), .ref out] wc H.size) (WI D k wc' kr (va_A wc H.size)) 1 6 (va_A wc H.size))
    (hr2 : rm2.cells = 0 ∧ rm2.slots = 0 ∧ rm2.frames + 1 ≤ 2048 ∧ 8 + (3 + 11) + rm2.locals ≤ 94400) (M2 : ∀ sz : Nat, Met l yX13_remarkAt wsX13_remarkAt rm2 (WPc D k [.ref q0, .int (xs (4 * j + 1)), .int (xs (4 * j + 2))] wd sz) (WI D k wd' br (va_A wd sz)) 0 0 (va_A wd sz)) (h2 : wd[0]? = some (q0, .inr (11, fs2)))
    (hr3 : rm3.cells = 0 ∧ rm3.slots = 0 ∧ rm3.frames + 1 ≤ 2048 ∧ 8 + (1 + 11) + rm3.locals ≤ 94400) (M3 : Met l yX13_thrown wsX13_thrown rm3 (RPc D k [.ref q0] wm) (EI th) 0 0 noA) (hm : wd' = wm ++ we) (h3 : wm[0]? = some (q0, .inr (11, fs3)))
    (hth : th = kr)
    (heq : kr = 0 → ou 0 = br.toInt64)
    (hP : va_P D vwCl (wc ++ (wd ++ wr)) H)
    (hD : va_D A (wc ++ (wd ++ wr)))
    (hS : va_S A s.heap H locs)
    (hl : lv_has ls 10 [(0, .ref b), (1, .ref o), (2, .ref q0), (3, .ref out), (4, .ref outd), (5, .int (nI (4 * j)))])
    (kk : ∀ (ls : Array Slot) (H : Heap) (locs : List Loc), lv_has ls 10 [(0, .ref b), (1, .ref o), (2, .ref q0), (3, .ref out), (4, .ref outd), (5, .int (nI (4 * j)))] → va_P D vwCl (wc' ++ (wd' ++ wr)) H → va_D A (wc' ++ (wd' ++ wr)) → va_S A s.heap H locs → W p l e room_1 s m #[Value.ref b] below meth c H locs (cells + 1) (slots + 6) Q (F0 m 2694 ls [])) : W p l e room_1 s m #[Value.ref b] below meth c H locs cells slots Q (F0 m 1378 ls []) := by
  obtain ⟨hF, hK, hN, hXN, hNC, hZ, hKC, hA, hX, hbl, hbA⟩ := id C9
  obtain ⟨hx, hb, hml, hown, hts⟩ := id hF
  refine lv_aload_n hx hb dL_law_1378 rfl (lv_at hl 1 rfl) ?_
  refine lv_aload_n hx hb dL_law_1379 rfl (lv_at hl 0 rfl) ?_
  refine lv_iload hx hb dL_law_1380 (lv_at hl 5 rfl) ?_
  refine lv_iconst (v := 1) hx hb dL_law_1382 (by decide) ?_
  refine ni_add hx hb (4 * j) 1 dL_law_1383 ?_
  refine l_sld C9 hS (4 * j + 1) (by omega) hL dL_law_1384 ?_
  refine lv_aload_n hx hb dL_law_1385 rfl (lv_at hl 0 rfl) ?_
  refine lv_iload hx hb dL_law_1386 (lv_at hl 5 rfl) ?_
  refine lv_iconst (v := 2) hx hb dL_law_1388 (by decide) ?_
  refine ni_add hx hb (4 * j) 2 dL_law_1389 ?_
  refine l_sld C9 hS (4 * j + 2) (by omega) hL dL_law_1390 ?_
  refine lv_aload_n hx hb dL_law_1391 rfl (lv_at hl 3 rfl) ?_
  refine lw_S C9 (As := [.ref o, .int (xs (4 * j + 1)), .int (xs (4 * j + 2)), .ref out]) (rest := []) gL_law_L_remarkAt rfl (maxL := 5) hr1 (n := 4) (by decide +kernel) rfl M1 hc hsl hP hD hS hl.1 rfl (Nat.le_of_ble_eq_true rfl) dL_law_1392 (fun H locs hP hD hS => ?_)
  refine lv_istore (lv' := [(6, .int kr), (0, .ref b), (1, .ref o), (2, .ref q0), (3, .ref out), (4, .ref outd), (5, .int (nI (4 * j)))]) hx hb dL_law_1395 hl (by decide) rfl (fun ls hl => ?_)
  refine lv_aload_n hx hb dL_law_1397 rfl (lv_at hl 3 rfl) ?_
  refine lv_aload_n hx hb dL_law_1398 rfl (lv_at hl 1 rfl) ?_
  refine lv_iload hx hb dL_law_1399 (lv_at hl 6 rfl) ?_
  refine lv_iconst (v := 1) hx hb dL_law_1401 (by decide) ?_
  refine ni_add hx hb (4 * j) 1 dL_law_1402 ?_
  refine l_sld C9 hS (4 * j + 1) (by omega) hL dL_law_1403 ?_
  refine lv_aload_n hx hb dL_law_1404 rfl (lv_at hl 1 rfl) ?_
  refine lv_iload hx hb dL_law_1405 (lv_at hl 6 rfl) ?_
  refine lv_iconst (v := 2) hx hb dL_law_1407 (by decide) ?_
  refine ni_add hx hb (4 * j) 2 dL_law_1408 ?_
  refine l_sld C9 hS (4 * j + 2) (by omega) hL dL_law_1409 ?_
  have hP := l_swP hP
  have hD := l_swD hD
  refine lw_Vi C9 (As := [.int (xs (4 * j + 1)), .int (xs (4 * j + 2))]) (rest := []) gL_law_X13_remarkAt rfl (maxL := 3) hr2 (n := 2) (by decide +kernel) rfl h2 (r9 := _) rfl rfl (M2 _) hc hsl hP hD hS hl.1 rfl (Nat.le_of_ble_eq_true rfl) dL_law_1410 (fun H locs hP hD hS => ?_)
  refine lv_istore (lv' := [(7, .int br), (6, .int kr), (0, .ref b), (1, .ref o), (2, .ref q0), (3, .ref out), (4, .ref outd), (5, .int (nI (4 * j)))]) hx hb dL_law_1413 hl (by decide) rfl (fun ls hl => ?_)
  refine lv_aload_n hx hb dL_law_1415 rfl (lv_at hl 4 rfl) ?_
  refine lw_Ri C9 (As := []) (rest := []) gL_law_X13_thrown rfl (maxL := 1) hr3 (n := 0) (by decide +kernel) rfl h3 (r9 := _) rfl rfl M3 hc hsl (l_P1 (wr := we) (by rw [← hm]; exact l_P1 hP)) hl.1 rfl (Nat.le_of_ble_eq_true rfl) dL_law_1416 ?_
  refine lv_iload hx hb dL_law_1419 (lv_at hl 1 rfl) ?_
  refine lv_icmp_eq (tgt := 1426) hx hb dL_law_1421 (by decide) (fun c_1 => ?_) (fun c_1 => ?_)
  · skip
    refine lv_iload hx hb dL_law_1426 (lv_at hl 1 rfl) ?_
    refine lv_if_ne (tgt := 1443) hx hb dL_law_1428 (by decide) (fun c_2 => ?_) (fun c_2 => ?_)
    · skip
      refine lv_goto (tgt := 2694) hx hb dL_law_1443 (by decide) ?_
      have hP := l_swP hP
      have hD := l_swD hD
      exact kk ls H locs (lv_sub hl [2, 3, 4, 5, 6, 7] rfl) hP hD hS
    · skip
      refine lv_aload_n hx hb dL_law_1431 rfl (lv_at hl 5 rfl) ?_
      refine lv_iconst (v := 0) hx hb dL_law_1432 (by decide) ?_
      have hP := l_swP hP
      have hD := l_swD hD
      refine l_la C9 (l_P1 hP) ho dL_law_1433 ?_
      refine lv_iload hx hb dL_law_1434 (lv_at hl 0 rfl) ?_
      refine lv_i2l hx hb dL_law_1436 rfl ?_
      refine W.lcmp hx hb dL_law_1437 ?_
      refine lv_if_eq (tgt := 1443) hx hb dL_law_1438 (by decide) (fun c_3 => ?_) (fun c_3 => ?_)
      · skip
        refine lv_goto (tgt := 2694) hx hb dL_law_1443 (by decide) ?_
        exact kk ls H locs (lv_sub hl [2, 3, 4, 5, 6, 7] rfl) hP hD hS
      · exact absurd (l_cmp0 (heq c_2)) c_3
  · exact absurd hth c_1

set_option maxHeartbeats 4000000 in
set_option maxRecDepth 100000 in
theorem lc_25 {br : Int32} {ou : Nat → Int64} (ho : wc'[i9]? = some (out, .inl (k 3, 1, .inr (.inl ou)))) (C9 : LC ks kv kf ka kw D k p s m c A b L xs)
    (hc : cells + 1 ≤ 603072)
    (hsl : slots + 6 ≤ 7182442)
    (j : Nat)
    (hj : 4 * j + 4 ≤ L)
    (hL : L ≤ 2048)
    (hr1 : rm1.cells = 1 ∧ rm1.slots = 6 ∧ rm1.frames + 1 ≤ 2048 ∧ 8 + (4 + 11) + rm1.locals ≤ 94400) (M1 : Met l yL_depthOf wsL_depthOf rm1 (LPc ks kv kf ka kw D k [.ref o, .int (xs (4 * j + 1)), .ref out] wc H.size) (WI D k wc' kr (va_A wc H.size)) 1 6 (va_A wc H.size))
    (hr2 : rm2.cells = 0 ∧ rm2.slots = 0 ∧ rm2.frames + 1 ≤ 2048 ∧ 8 + (2 + 11) + rm2.locals ≤ 94400) (M2 : ∀ sz : Nat, Met l yX13_depthOf wsX13_depthOf rm2 (WPc D k [.ref q0, .int (xs (4 * j + 1))] wd sz) (WI D k wd' br (va_A wd sz)) 0 0 (va_A wd sz)) (h2 : wd[0]? = some (q0, .inr (11, fs2)))
    (hr3 : rm3.cells = 0 ∧ rm3.slots = 0 ∧ rm3.frames + 1 ≤ 2048 ∧ 8 + (1 + 11) + rm3.locals ≤ 94400) (M3 : Met l yX13_thrown wsX13_thrown rm3 (RPc D k [.ref q0] wm) (EI th) 0 0 noA) (hm : wd' = wm ++ we) (h3 : wm[0]? = some (q0, .inr (11, fs3)))
    (hth : th = kr)
    (heq : kr = 0 → ou 0 = br.toInt64)
    (hP : va_P D vwCl (wc ++ (wd ++ wr)) H)
    (hD : va_D A (wc ++ (wd ++ wr)))
    (hS : va_S A s.heap H locs)
    (hl : lv_has ls 10 [(0, .ref b), (1, .ref o), (2, .ref q0), (3, .ref out), (4, .ref outd), (5, .int (nI (4 * j)))])
    (kk : ∀ (ls : Array Slot) (H : Heap) (locs : List Loc), lv_has ls 10 [(0, .ref b), (1, .ref o), (2, .ref q0), (3, .ref out), (4, .ref outd), (5, .int (nI (4 * j)))] → va_P D vwCl (wc' ++ (wd' ++ wr)) H → va_D A (wc' ++ (wd' ++ wr)) → va_S A s.heap H locs → W p l e room_1 s m #[Value.ref b] below meth c H locs (cells + 1) (slots + 6) Q (F0 m 2694 ls [])) : W p l e room_1 s m #[Value.ref b] below meth c H locs cells slots Q (F0 m 1446 ls []) := by
  obtain ⟨hF, hK, hN, hXN, hNC, hZ, hKC, hA, hX, hbl, hbA⟩ := id C9
  obtain ⟨hx, hb, hml, hown, hts⟩ := id hF
  refine lv_aload_n hx hb dL_law_1446 rfl (lv_at hl 1 rfl) ?_
  refine lv_aload_n hx hb dL_law_1447 rfl (lv_at hl 0 rfl) ?_
  refine lv_iload hx hb dL_law_1448 (lv_at hl 5 rfl) ?_
  refine lv_iconst (v := 1) hx hb dL_law_1450 (by decide) ?_
  refine ni_add hx hb (4 * j) 1 dL_law_1451 ?_
  refine l_sld C9 hS (4 * j + 1) (by omega) hL dL_law_1452 ?_
  refine lv_aload_n hx hb dL_law_1453 rfl (lv_at hl 3 rfl) ?_
  refine lw_S C9 (As := [.ref o, .int (xs (4 * j + 1)), .ref out]) (rest := []) gL_law_L_depthOf rfl (maxL := 4) hr1 (n := 3) (by decide +kernel) rfl M1 hc hsl hP hD hS hl.1 rfl (Nat.le_of_ble_eq_true rfl) dL_law_1454 (fun H locs hP hD hS => ?_)
  refine lv_istore (lv' := [(6, .int kr), (0, .ref b), (1, .ref o), (2, .ref q0), (3, .ref out), (4, .ref outd), (5, .int (nI (4 * j)))]) hx hb dL_law_1457 hl (by decide) rfl (fun ls hl => ?_)
  refine lv_aload_n hx hb dL_law_1459 rfl (lv_at hl 3 rfl) ?_
  refine lv_aload_n hx hb dL_law_1460 rfl (lv_at hl 1 rfl) ?_
  refine lv_iload hx hb dL_law_1461 (lv_at hl 6 rfl) ?_
  refine lv_iconst (v := 1) hx hb dL_law_1463 (by decide) ?_
  refine ni_add hx hb (4 * j) 1 dL_law_1464 ?_
  refine l_sld C9 hS (4 * j + 1) (by omega) hL dL_law_1465 ?_
  have hP := l_swP hP
  have hD := l_swD hD
  refine lw_Vi C9 (As := [.int (xs (4 * j + 1))]) (rest := []) gL_law_X13_depthOf rfl (maxL := 2) hr2 (n := 1) (by decide +kernel) rfl h2 (r9 := _) rfl rfl (M2 _) hc hsl hP hD hS hl.1 rfl (Nat.le_of_ble_eq_true rfl) dL_law_1466 (fun H locs hP hD hS => ?_)
  refine lv_istore (lv' := [(7, .int br), (6, .int kr), (0, .ref b), (1, .ref o), (2, .ref q0), (3, .ref out), (4, .ref outd), (5, .int (nI (4 * j)))]) hx hb dL_law_1469 hl (by decide) rfl (fun ls hl => ?_)
  refine lv_aload_n hx hb dL_law_1471 rfl (lv_at hl 4 rfl) ?_
  refine lw_Ri C9 (As := []) (rest := []) gL_law_X13_thrown rfl (maxL := 1) hr3 (n := 0) (by decide +kernel) rfl h3 (r9 := _) rfl rfl M3 hc hsl (l_P1 (wr := we) (by rw [← hm]; exact l_P1 hP)) hl.1 rfl (Nat.le_of_ble_eq_true rfl) dL_law_1472 ?_
  refine lv_iload hx hb dL_law_1475 (lv_at hl 1 rfl) ?_
  refine lv_icmp_eq (tgt := 1482) hx hb dL_law_1477 (by decide) (fun c_1 => ?_) (fun c_1 => ?_)
  · skip
    refine lv_iload hx hb dL_law_1482 (lv_at hl 1 rfl) ?_
    refine lv_if_ne (tgt := 1499) hx hb dL_law_1484 (by decide) (fun c_2 => ?_) (fun c_2 => ?_)
    · skip
      refine lv_goto (tgt := 2694) hx hb dL_law_1499 (by decide) ?_
      have hP := l_swP hP
      have hD := l_swD hD
      exact kk ls H locs (lv_sub hl [2, 3, 4, 5, 6, 7] rfl) hP hD hS
    · skip
      refine lv_aload_n hx hb dL_law_1487 rfl (lv_at hl 5 rfl) ?_
      refine lv_iconst (v := 0) hx hb dL_law_1488 (by decide) ?_
      have hP := l_swP hP
      have hD := l_swD hD
      refine l_la C9 (l_P1 hP) ho dL_law_1489 ?_
      refine lv_iload hx hb dL_law_1490 (lv_at hl 0 rfl) ?_
      refine lv_i2l hx hb dL_law_1492 rfl ?_
      refine W.lcmp hx hb dL_law_1493 ?_
      refine lv_if_eq (tgt := 1499) hx hb dL_law_1494 (by decide) (fun c_3 => ?_) (fun c_3 => ?_)
      · skip
        refine lv_goto (tgt := 2694) hx hb dL_law_1499 (by decide) ?_
        exact kk ls H locs (lv_sub hl [2, 3, 4, 5, 6, 7] rfl) hP hD hS
      · exact absurd (l_cmp0 (heq c_2)) c_3
  · exact absurd hth c_1

set_option maxHeartbeats 4000000 in
set_option maxRecDepth 100000 in
theorem lc_26 {br : UInt32} {ou : Nat → UInt64} (ho : wc'[i9]? = some (outd, .inl (k 8, 1, .inr (.inr (.inr (.inl ou)))))) (C9 : LC ks kv kf ka kw D k p s m c A b L xs)
    (hc : cells + 1 ≤ 603072)
    (hsl : slots + 6 ≤ 7182442)
    (j : Nat)
    (hj : 4 * j + 4 ≤ L)
    (hL : L ≤ 2048)
    (hr1 : rm1.cells = 1 ∧ rm1.slots = 6 ∧ rm1.frames + 1 ≤ 2048 ∧ 8 + (5 + 11) + rm1.locals ≤ 94400) (M1 : Met l yL_excite wsL_excite rm1 (LPc ks kv kf ka kw D k [.ref o, .int (xs (4 * j + 1)), .int (xs (4 * j + 2)), .ref outd] wc H.size) (WI D k wc' kr (va_A wc H.size)) 1 6 (va_A wc H.size))
    (hr2 : rm2.cells = 0 ∧ rm2.slots = 0 ∧ rm2.frames + 1 ≤ 2048 ∧ 8 + (4 + 11) + rm2.locals ≤ 94400) (M2 : ∀ sz : Nat, Met l yX13_excite wsX13_excite rm2 (WPc D k [.ref q0, .int (xs (4 * j + 1)), .int (xs (4 * j + 2))] wd sz) (WF D k wd' br (va_A wd sz)) 0 0 (va_A wd sz)) (h2 : wd[0]? = some (q0, .inr (11, fs2)))
    (hr3 : rm3.cells = 0 ∧ rm3.slots = 0 ∧ rm3.frames + 1 ≤ 2048 ∧ 8 + (1 + 11) + rm3.locals ≤ 94400) (M3 : Met l yX13_thrown wsX13_thrown rm3 (RPc D k [.ref q0] wm) (EI th) 0 0 noA) (hm : wd' = wm ++ we) (h3 : wm[0]? = some (q0, .inr (11, fs3)))
    (hth : th = kr)
    (hq_br : kr = 0 → vf_n64 (FP.f2d br))
    (heq : kr = 0 → FP.dcmp (ou 0) (FP.f2d br) = some .eq)
    (hP : va_P D vwCl (wc ++ (wd ++ wr)) H)
    (hD : va_D A (wc ++ (wd ++ wr)))
    (hS : va_S A s.heap H locs)
    (hl : lv_has ls 10 [(0, .ref b), (1, .ref o), (2, .ref q0), (3, .ref out), (4, .ref outd), (5, .int (nI (4 * j)))])
    (kk : ∀ (ls : Array Slot) (H : Heap) (locs : List Loc), lv_has ls 10 [(0, .ref b), (1, .ref o), (2, .ref q0), (3, .ref out), (4, .ref outd), (5, .int (nI (4 * j)))] → va_P D vwCl (wc' ++ (wd' ++ wr)) H → va_D A (wc' ++ (wd' ++ wr)) → va_S A s.heap H locs → W p l e room_1 s m #[Value.ref b] below meth c H locs (cells + 1) (slots + 6) Q (F0 m 2694 ls [])) : W p l e room_1 s m #[Value.ref b] below meth c H locs cells slots Q (F0 m 1502 ls []) := by
  obtain ⟨hF, hK, hN, hXN, hNC, hZ, hKC, hA, hX, hbl, hbA⟩ := id C9
  obtain ⟨hx, hb, hml, hown, hts⟩ := id hF
  refine lv_aload_n hx hb dL_law_1502 rfl (lv_at hl 1 rfl) ?_
  refine lv_aload_n hx hb dL_law_1503 rfl (lv_at hl 0 rfl) ?_
  refine lv_iload hx hb dL_law_1504 (lv_at hl 5 rfl) ?_
  refine lv_iconst (v := 1) hx hb dL_law_1506 (by decide) ?_
  refine ni_add hx hb (4 * j) 1 dL_law_1507 ?_
  refine l_sld C9 hS (4 * j + 1) (by omega) hL dL_law_1508 ?_
  refine lv_aload_n hx hb dL_law_1509 rfl (lv_at hl 0 rfl) ?_
  refine lv_iload hx hb dL_law_1510 (lv_at hl 5 rfl) ?_
  refine lv_iconst (v := 2) hx hb dL_law_1512 (by decide) ?_
  refine ni_add hx hb (4 * j) 2 dL_law_1513 ?_
  refine l_sld C9 hS (4 * j + 2) (by omega) hL dL_law_1514 ?_
  refine lv_aload hx hb dL_law_1515 (lv_at hl 4 rfl) ?_
  refine lw_S C9 (As := [.ref o, .int (xs (4 * j + 1)), .int (xs (4 * j + 2)), .ref outd]) (rest := []) gL_law_L_excite rfl (maxL := 5) hr1 (n := 4) (by decide +kernel) rfl M1 hc hsl hP hD hS hl.1 rfl (Nat.le_of_ble_eq_true rfl) dL_law_1517 (fun H locs hP hD hS => ?_)
  refine lv_istore (lv' := [(6, .int kr), (0, .ref b), (1, .ref o), (2, .ref q0), (3, .ref out), (4, .ref outd), (5, .int (nI (4 * j)))]) hx hb dL_law_1520 hl (by decide) rfl (fun ls hl => ?_)
  refine lv_aload_n hx hb dL_law_1522 rfl (lv_at hl 3 rfl) ?_
  refine lv_aload_n hx hb dL_law_1523 rfl (lv_at hl 1 rfl) ?_
  refine lv_iload hx hb dL_law_1524 (lv_at hl 6 rfl) ?_
  refine lv_iconst (v := 1) hx hb dL_law_1526 (by decide) ?_
  refine ni_add hx hb (4 * j) 1 dL_law_1527 ?_
  refine l_sld C9 hS (4 * j + 1) (by omega) hL dL_law_1528 ?_
  refine lv_aload_n hx hb dL_law_1529 rfl (lv_at hl 1 rfl) ?_
  refine lv_iload hx hb dL_law_1530 (lv_at hl 6 rfl) ?_
  refine lv_iconst (v := 2) hx hb dL_law_1532 (by decide) ?_
  refine ni_add hx hb (4 * j) 2 dL_law_1533 ?_
  refine l_sld C9 hS (4 * j + 2) (by omega) hL dL_law_1534 ?_
  have hP := l_swP hP
  have hD := l_swD hD
  refine lw_Vf C9 (As := [.int (xs (4 * j + 1)), .int (xs (4 * j + 2))]) (rest := []) gL_law_X13_excite rfl (maxL := 4) hr2 (n := 2) (by decide +kernel) rfl h2 (r9 := _) rfl rfl (M2 _) hc hsl hP hD hS hl.1 rfl (Nat.le_of_ble_eq_true rfl) dL_law_1535 (fun H locs hP hD hS => ?_)
  refine lv_fstore (lv' := [(7, .float br), (6, .int kr), (0, .ref b), (1, .ref o), (2, .ref q0), (3, .ref out), (4, .ref outd), (5, .int (nI (4 * j)))]) hx hb dL_law_1538 hl (by decide) rfl (fun ls hl => ?_)
  refine lv_aload_n hx hb dL_law_1540 rfl (lv_at hl 4 rfl) ?_
  refine lw_Ri C9 (As := []) (rest := []) gL_law_X13_thrown rfl (maxL := 1) hr3 (n := 0) (by decide +kernel) rfl h3 (r9 := _) rfl rfl M3 hc hsl (l_P1 (wr := we) (by rw [← hm]; exact l_P1 hP)) hl.1 rfl (Nat.le_of_ble_eq_true rfl) dL_law_1541 ?_
  refine lv_iload hx hb dL_law_1544 (lv_at hl 1 rfl) ?_
  refine lv_icmp_eq (tgt := 1551) hx hb dL_law_1546 (by decide) (fun c_1 => ?_) (fun c_1 => ?_)
  · skip
    refine lv_iload hx hb dL_law_1551 (lv_at hl 1 rfl) ?_
    refine lv_if_ne (tgt := 1589) hx hb dL_law_1553 (by decide) (fun c_2 => ?_) (fun c_2 => ?_)
    · skip
      refine lv_goto (tgt := 2694) hx hb dL_law_1589 (by decide) ?_
      have hP := l_swP hP
      have hD := l_swD hD
      exact kk ls H locs (lv_sub hl [2, 3, 4, 5, 6, 7] rfl) hP hD hS
    · skip
      refine lv_aload hx hb dL_law_1556 (lv_at hl 6 rfl) ?_
      refine lv_iconst (v := 0) hx hb dL_law_1558 (by decide) ?_
      have hP := l_swP hP
      have hD := l_swD hD
      refine l_da C9 (l_P1 hP) ho dL_law_1559 ?_
      refine lv_fload hx hb dL_law_1560 (lv_at hl 0 rfl) ?_
      refine lv_f2d hx hb dL_law_1562 (hq_br c_2) ?_
      refine lv_dcmp hx hb dL_law_1563 ?_
      refine lv_if_eq (tgt := 1589) hx hb dL_law_1564 (by decide) (fun c_3 => ?_) (fun c_3 => ?_)
      · skip
        refine lv_goto (tgt := 2694) hx hb dL_law_1589 (by decide) ?_
        exact kk ls H locs (lv_sub hl [2, 3, 4, 5, 6, 7] rfl) hP hD hS
      · exact absurd ((cmv_eq _ _).mpr (heq c_2)) c_3
  · exact absurd hth c_1

set_option maxHeartbeats 4000000 in
set_option maxRecDepth 100000 in
theorem lc_27 {br : Int32} {ou : Nat → Int64} (ho : wc'[i9]? = some (out, .inl (k 3, 1, .inr (.inl ou)))) (C9 : LC ks kv kf ka kw D k p s m c A b L xs)
    (hc : cells + 1 ≤ 603072)
    (hsl : slots + 6 ≤ 7182442)
    (j : Nat)
    (hj : 4 * j + 4 ≤ L)
    (hL : L ≤ 2048)
    (hr1 : rm1.cells = 1 ∧ rm1.slots = 6 ∧ rm1.frames + 1 ≤ 2048 ∧ 8 + (4 + 11) + rm1.locals ≤ 94400) (M1 : Met l yL_pass wsL_pass rm1 (LPc ks kv kf ka kw D k [.ref o, .int (xs (4 * j + 1)), .ref out] wc H.size) (WI D k wc' kr (va_A wc H.size)) 1 6 (va_A wc H.size))
    (hr2 : rm2.cells = 0 ∧ rm2.slots = 0 ∧ rm2.frames + 1 ≤ 2048 ∧ 8 + (2 + 11) + rm2.locals ≤ 94400) (M2 : ∀ sz : Nat, Met l yX13_pass wsX13_pass rm2 (WPc D k [.ref q0, .int (xs (4 * j + 1))] wd sz) (WI D k wd' br (va_A wd sz)) 0 0 (va_A wd sz)) (h2 : wd[0]? = some (q0, .inr (11, fs2)))
    (hr3 : rm3.cells = 0 ∧ rm3.slots = 0 ∧ rm3.frames + 1 ≤ 2048 ∧ 8 + (1 + 11) + rm3.locals ≤ 94400) (M3 : Met l yX13_thrown wsX13_thrown rm3 (RPc D k [.ref q0] wm) (EI th) 0 0 noA) (hm : wd' = wm ++ we) (h3 : wm[0]? = some (q0, .inr (11, fs3)))
    (hth : th = kr)
    (heq : kr = 0 → ou 0 = br.toInt64)
    (hP : va_P D vwCl (wc ++ (wd ++ wr)) H)
    (hD : va_D A (wc ++ (wd ++ wr)))
    (hS : va_S A s.heap H locs)
    (hl : lv_has ls 10 [(0, .ref b), (1, .ref o), (2, .ref q0), (3, .ref out), (4, .ref outd), (5, .int (nI (4 * j)))])
    (kk : ∀ (ls : Array Slot) (H : Heap) (locs : List Loc), lv_has ls 10 [(0, .ref b), (1, .ref o), (2, .ref q0), (3, .ref out), (4, .ref outd), (5, .int (nI (4 * j)))] → va_P D vwCl (wc' ++ (wd' ++ wr)) H → va_D A (wc' ++ (wd' ++ wr)) → va_S A s.heap H locs → W p l e room_1 s m #[Value.ref b] below meth c H locs (cells + 1) (slots + 6) Q (F0 m 2694 ls [])) : W p l e room_1 s m #[Value.ref b] below meth c H locs cells slots Q (F0 m 1592 ls []) := by
  obtain ⟨hF, hK, hN, hXN, hNC, hZ, hKC, hA, hX, hbl, hbA⟩ := id C9
  obtain ⟨hx, hb, hml, hown, hts⟩ := id hF
  refine lv_aload_n hx hb dL_law_1592 rfl (lv_at hl 1 rfl) ?_
  refine lv_aload_n hx hb dL_law_1593 rfl (lv_at hl 0 rfl) ?_
  refine lv_iload hx hb dL_law_1594 (lv_at hl 5 rfl) ?_
  refine lv_iconst (v := 1) hx hb dL_law_1596 (by decide) ?_
  refine ni_add hx hb (4 * j) 1 dL_law_1597 ?_
  refine l_sld C9 hS (4 * j + 1) (by omega) hL dL_law_1598 ?_
  refine lv_aload_n hx hb dL_law_1599 rfl (lv_at hl 3 rfl) ?_
  refine lw_S C9 (As := [.ref o, .int (xs (4 * j + 1)), .ref out]) (rest := []) gL_law_L_pass rfl (maxL := 4) hr1 (n := 3) (by decide +kernel) rfl M1 hc hsl hP hD hS hl.1 rfl (Nat.le_of_ble_eq_true rfl) dL_law_1600 (fun H locs hP hD hS => ?_)
  refine lv_istore (lv' := [(6, .int kr), (0, .ref b), (1, .ref o), (2, .ref q0), (3, .ref out), (4, .ref outd), (5, .int (nI (4 * j)))]) hx hb dL_law_1603 hl (by decide) rfl (fun ls hl => ?_)
  refine lv_aload_n hx hb dL_law_1605 rfl (lv_at hl 3 rfl) ?_
  refine lv_aload_n hx hb dL_law_1606 rfl (lv_at hl 1 rfl) ?_
  refine lv_iload hx hb dL_law_1607 (lv_at hl 6 rfl) ?_
  refine lv_iconst (v := 1) hx hb dL_law_1609 (by decide) ?_
  refine ni_add hx hb (4 * j) 1 dL_law_1610 ?_
  refine l_sld C9 hS (4 * j + 1) (by omega) hL dL_law_1611 ?_
  have hP := l_swP hP
  have hD := l_swD hD
  refine lw_Vi C9 (As := [.int (xs (4 * j + 1))]) (rest := []) gL_law_X13_pass rfl (maxL := 2) hr2 (n := 1) (by decide +kernel) rfl h2 (r9 := _) rfl rfl (M2 _) hc hsl hP hD hS hl.1 rfl (Nat.le_of_ble_eq_true rfl) dL_law_1612 (fun H locs hP hD hS => ?_)
  refine lv_istore (lv' := [(7, .int br), (6, .int kr), (0, .ref b), (1, .ref o), (2, .ref q0), (3, .ref out), (4, .ref outd), (5, .int (nI (4 * j)))]) hx hb dL_law_1615 hl (by decide) rfl (fun ls hl => ?_)
  refine lv_aload_n hx hb dL_law_1617 rfl (lv_at hl 4 rfl) ?_
  refine lw_Ri C9 (As := []) (rest := []) gL_law_X13_thrown rfl (maxL := 1) hr3 (n := 0) (by decide +kernel) rfl h3 (r9 := _) rfl rfl M3 hc hsl (l_P1 (wr := we) (by rw [← hm]; exact l_P1 hP)) hl.1 rfl (Nat.le_of_ble_eq_true rfl) dL_law_1618 ?_
  refine lv_iload hx hb dL_law_1621 (lv_at hl 1 rfl) ?_
  refine lv_icmp_eq (tgt := 1628) hx hb dL_law_1623 (by decide) (fun c_1 => ?_) (fun c_1 => ?_)
  · skip
    refine lv_iload hx hb dL_law_1628 (lv_at hl 1 rfl) ?_
    refine lv_if_ne (tgt := 1645) hx hb dL_law_1630 (by decide) (fun c_2 => ?_) (fun c_2 => ?_)
    · skip
      refine lv_goto (tgt := 2694) hx hb dL_law_1645 (by decide) ?_
      have hP := l_swP hP
      have hD := l_swD hD
      exact kk ls H locs (lv_sub hl [2, 3, 4, 5, 6, 7] rfl) hP hD hS
    · skip
      refine lv_aload_n hx hb dL_law_1633 rfl (lv_at hl 5 rfl) ?_
      refine lv_iconst (v := 0) hx hb dL_law_1634 (by decide) ?_
      have hP := l_swP hP
      have hD := l_swD hD
      refine l_la C9 (l_P1 hP) ho dL_law_1635 ?_
      refine lv_iload hx hb dL_law_1636 (lv_at hl 0 rfl) ?_
      refine lv_i2l hx hb dL_law_1638 rfl ?_
      refine W.lcmp hx hb dL_law_1639 ?_
      refine lv_if_eq (tgt := 1645) hx hb dL_law_1640 (by decide) (fun c_3 => ?_) (fun c_3 => ?_)
      · skip
        refine lv_goto (tgt := 2694) hx hb dL_law_1645 (by decide) ?_
        exact kk ls H locs (lv_sub hl [2, 3, 4, 5, 6, 7] rfl) hP hD hS
      · exact absurd (l_cmp0 (heq c_2)) c_3
  · exact absurd hth c_1

set_option maxHeartbeats 4000000 in
set_option maxRecDepth 100000 in
theorem lc_28 {br : Int32} {ou : Nat → Int64} (ho : wc'[i9]? = some (out, .inl (k 3, 1, .inr (.inl ou)))) (C9 : LC ks kv kf ka kw D k p s m c A b L xs)
    (hc : cells + 1 ≤ 603072)
    (hsl : slots + 6 ≤ 7182442)
    (j : Nat)
    (hj : 4 * j + 4 ≤ L)
    (hL : L ≤ 2048)
    (hr1 : rm1.cells = 1 ∧ rm1.slots = 6 ∧ rm1.frames + 1 ≤ 2048 ∧ 8 + (4 + 11) + rm1.locals ≤ 94400) (M1 : Met l yL_setLimit wsL_setLimit rm1 (LPc ks kv kf ka kw D k [.ref o, .int (xs (4 * j + 1)), .ref out] wc H.size) (WI D k wc' kr (va_A wc H.size)) 1 6 (va_A wc H.size))
    (hr2 : rm2.cells = 0 ∧ rm2.slots = 0 ∧ rm2.frames + 1 ≤ 2048 ∧ 8 + (2 + 11) + rm2.locals ≤ 94400) (M2 : ∀ sz : Nat, Met l yX13_setLimit wsX13_setLimit rm2 (WPc D k [.ref q0, .int (xs (4 * j + 1))] wd sz) (WI D k wd' br (va_A wd sz)) 0 0 (va_A wd sz)) (h2 : wd[0]? = some (q0, .inr (11, fs2)))
    (hr3 : rm3.cells = 0 ∧ rm3.slots = 0 ∧ rm3.frames + 1 ≤ 2048 ∧ 8 + (1 + 11) + rm3.locals ≤ 94400) (M3 : Met l yX13_thrown wsX13_thrown rm3 (RPc D k [.ref q0] wm) (EI th) 0 0 noA) (hm : wd' = wm ++ we) (h3 : wm[0]? = some (q0, .inr (11, fs3)))
    (hth : th = kr)
    (heq : kr = 0 → ou 0 = br.toInt64)
    (hP : va_P D vwCl (wc ++ (wd ++ wr)) H)
    (hD : va_D A (wc ++ (wd ++ wr)))
    (hS : va_S A s.heap H locs)
    (hl : lv_has ls 10 [(0, .ref b), (1, .ref o), (2, .ref q0), (3, .ref out), (4, .ref outd), (5, .int (nI (4 * j)))])
    (kk : ∀ (ls : Array Slot) (H : Heap) (locs : List Loc), lv_has ls 10 [(0, .ref b), (1, .ref o), (2, .ref q0), (3, .ref out), (4, .ref outd), (5, .int (nI (4 * j)))] → va_P D vwCl (wc' ++ (wd' ++ wr)) H → va_D A (wc' ++ (wd' ++ wr)) → va_S A s.heap H locs → W p l e room_1 s m #[Value.ref b] below meth c H locs (cells + 1) (slots + 6) Q (F0 m 2694 ls [])) : W p l e room_1 s m #[Value.ref b] below meth c H locs cells slots Q (F0 m 1648 ls []) := by
  obtain ⟨hF, hK, hN, hXN, hNC, hZ, hKC, hA, hX, hbl, hbA⟩ := id C9
  obtain ⟨hx, hb, hml, hown, hts⟩ := id hF
  refine lv_aload_n hx hb dL_law_1648 rfl (lv_at hl 1 rfl) ?_
  refine lv_aload_n hx hb dL_law_1649 rfl (lv_at hl 0 rfl) ?_
  refine lv_iload hx hb dL_law_1650 (lv_at hl 5 rfl) ?_
  refine lv_iconst (v := 1) hx hb dL_law_1652 (by decide) ?_
  refine ni_add hx hb (4 * j) 1 dL_law_1653 ?_
  refine l_sld C9 hS (4 * j + 1) (by omega) hL dL_law_1654 ?_
  refine lv_aload_n hx hb dL_law_1655 rfl (lv_at hl 3 rfl) ?_
  refine lw_S C9 (As := [.ref o, .int (xs (4 * j + 1)), .ref out]) (rest := []) gL_law_L_setLimit rfl (maxL := 4) hr1 (n := 3) (by decide +kernel) rfl M1 hc hsl hP hD hS hl.1 rfl (Nat.le_of_ble_eq_true rfl) dL_law_1656 (fun H locs hP hD hS => ?_)
  refine lv_istore (lv' := [(6, .int kr), (0, .ref b), (1, .ref o), (2, .ref q0), (3, .ref out), (4, .ref outd), (5, .int (nI (4 * j)))]) hx hb dL_law_1659 hl (by decide) rfl (fun ls hl => ?_)
  refine lv_aload_n hx hb dL_law_1661 rfl (lv_at hl 3 rfl) ?_
  refine lv_aload_n hx hb dL_law_1662 rfl (lv_at hl 1 rfl) ?_
  refine lv_iload hx hb dL_law_1663 (lv_at hl 6 rfl) ?_
  refine lv_iconst (v := 1) hx hb dL_law_1665 (by decide) ?_
  refine ni_add hx hb (4 * j) 1 dL_law_1666 ?_
  refine l_sld C9 hS (4 * j + 1) (by omega) hL dL_law_1667 ?_
  have hP := l_swP hP
  have hD := l_swD hD
  refine lw_Vi C9 (As := [.int (xs (4 * j + 1))]) (rest := []) gL_law_X13_setLimit rfl (maxL := 2) hr2 (n := 1) (by decide +kernel) rfl h2 (r9 := _) rfl rfl (M2 _) hc hsl hP hD hS hl.1 rfl (Nat.le_of_ble_eq_true rfl) dL_law_1668 (fun H locs hP hD hS => ?_)
  refine lv_istore (lv' := [(7, .int br), (6, .int kr), (0, .ref b), (1, .ref o), (2, .ref q0), (3, .ref out), (4, .ref outd), (5, .int (nI (4 * j)))]) hx hb dL_law_1671 hl (by decide) rfl (fun ls hl => ?_)
  refine lv_aload_n hx hb dL_law_1673 rfl (lv_at hl 4 rfl) ?_
  refine lw_Ri C9 (As := []) (rest := []) gL_law_X13_thrown rfl (maxL := 1) hr3 (n := 0) (by decide +kernel) rfl h3 (r9 := _) rfl rfl M3 hc hsl (l_P1 (wr := we) (by rw [← hm]; exact l_P1 hP)) hl.1 rfl (Nat.le_of_ble_eq_true rfl) dL_law_1674 ?_
  refine lv_iload hx hb dL_law_1677 (lv_at hl 1 rfl) ?_
  refine lv_icmp_eq (tgt := 1684) hx hb dL_law_1679 (by decide) (fun c_1 => ?_) (fun c_1 => ?_)
  · skip
    refine lv_iload hx hb dL_law_1684 (lv_at hl 1 rfl) ?_
    refine lv_if_ne (tgt := 1701) hx hb dL_law_1686 (by decide) (fun c_2 => ?_) (fun c_2 => ?_)
    · skip
      refine lv_goto (tgt := 2694) hx hb dL_law_1701 (by decide) ?_
      have hP := l_swP hP
      have hD := l_swD hD
      exact kk ls H locs (lv_sub hl [2, 3, 4, 5, 6, 7] rfl) hP hD hS
    · skip
      refine lv_aload_n hx hb dL_law_1689 rfl (lv_at hl 5 rfl) ?_
      refine lv_iconst (v := 0) hx hb dL_law_1690 (by decide) ?_
      have hP := l_swP hP
      have hD := l_swD hD
      refine l_la C9 (l_P1 hP) ho dL_law_1691 ?_
      refine lv_iload hx hb dL_law_1692 (lv_at hl 0 rfl) ?_
      refine lv_i2l hx hb dL_law_1694 rfl ?_
      refine W.lcmp hx hb dL_law_1695 ?_
      refine lv_if_eq (tgt := 1701) hx hb dL_law_1696 (by decide) (fun c_3 => ?_) (fun c_3 => ?_)
      · skip
        refine lv_goto (tgt := 2694) hx hb dL_law_1701 (by decide) ?_
        exact kk ls H locs (lv_sub hl [2, 3, 4, 5, 6, 7] rfl) hP hD hS
      · exact absurd (l_cmp0 (heq c_2)) c_3
  · exact absurd hth c_1

set_option maxHeartbeats 4000000 in
set_option maxRecDepth 100000 in
theorem lc_29 {br : UInt32} {ou : Nat → UInt64} (ho : wc'[i9]? = some (outd, .inl (k 8, 1, .inr (.inr (.inr (.inl ou)))))) (C9 : LC ks kv kf ka kw D k p s m c A b L xs)
    (hc : cells + 1 ≤ 603072)
    (hsl : slots + 6 ≤ 7182442)
    (j : Nat)
    (hj : 4 * j + 4 ≤ L)
    (hL : L ≤ 2048)
    (hr1 : rm1.cells = 1 ∧ rm1.slots = 6 ∧ rm1.frames + 1 ≤ 2048 ∧ 8 + (4 + 11) + rm1.locals ≤ 94400) (M1 : Met l yL_fluxOf wsL_fluxOf rm1 (LPc ks kv kf ka kw D k [.ref o, .int (xs (4 * j + 1)), .ref outd] wc H.size) (WI D k wc' kr (va_A wc H.size)) 1 6 (va_A wc H.size))
    (hr2 : rm2.cells = 0 ∧ rm2.slots = 0 ∧ rm2.frames + 1 ≤ 2048 ∧ 8 + (2 + 11) + rm2.locals ≤ 94400) (M2 : ∀ sz : Nat, Met l yX13_fluxOf wsX13_fluxOf rm2 (WPc D k [.ref q0, .int (xs (4 * j + 1))] wd sz) (WF D k wd' br (va_A wd sz)) 0 0 (va_A wd sz)) (h2 : wd[0]? = some (q0, .inr (11, fs2)))
    (hr3 : rm3.cells = 0 ∧ rm3.slots = 0 ∧ rm3.frames + 1 ≤ 2048 ∧ 8 + (1 + 11) + rm3.locals ≤ 94400) (M3 : Met l yX13_thrown wsX13_thrown rm3 (RPc D k [.ref q0] wm) (EI th) 0 0 noA) (hm : wd' = wm ++ we) (h3 : wm[0]? = some (q0, .inr (11, fs3)))
    (hth : th = kr)
    (hq_br : kr = 0 → vf_n64 (FP.f2d br))
    (heq : kr = 0 → FP.dcmp (ou 0) (FP.f2d br) = some .eq)
    (hP : va_P D vwCl (wc ++ (wd ++ wr)) H)
    (hD : va_D A (wc ++ (wd ++ wr)))
    (hS : va_S A s.heap H locs)
    (hl : lv_has ls 10 [(0, .ref b), (1, .ref o), (2, .ref q0), (3, .ref out), (4, .ref outd), (5, .int (nI (4 * j)))])
    (kk : ∀ (ls : Array Slot) (H : Heap) (locs : List Loc), lv_has ls 10 [(0, .ref b), (1, .ref o), (2, .ref q0), (3, .ref out), (4, .ref outd), (5, .int (nI (4 * j)))] → va_P D vwCl (wc' ++ (wd' ++ wr)) H → va_D A (wc' ++ (wd' ++ wr)) → va_S A s.heap H locs → W p l e room_1 s m #[Value.ref b] below meth c H locs (cells + 1) (slots + 6) Q (F0 m 2694 ls [])) : W p l e room_1 s m #[Value.ref b] below meth c H locs cells slots Q (F0 m 1704 ls []) := by
  obtain ⟨hF, hK, hN, hXN, hNC, hZ, hKC, hA, hX, hbl, hbA⟩ := id C9
  obtain ⟨hx, hb, hml, hown, hts⟩ := id hF
  refine lv_aload_n hx hb dL_law_1704 rfl (lv_at hl 1 rfl) ?_
  refine lv_aload_n hx hb dL_law_1705 rfl (lv_at hl 0 rfl) ?_
  refine lv_iload hx hb dL_law_1706 (lv_at hl 5 rfl) ?_
  refine lv_iconst (v := 1) hx hb dL_law_1708 (by decide) ?_
  refine ni_add hx hb (4 * j) 1 dL_law_1709 ?_
  refine l_sld C9 hS (4 * j + 1) (by omega) hL dL_law_1710 ?_
  refine lv_aload hx hb dL_law_1711 (lv_at hl 4 rfl) ?_
  refine lw_S C9 (As := [.ref o, .int (xs (4 * j + 1)), .ref outd]) (rest := []) gL_law_L_fluxOf rfl (maxL := 4) hr1 (n := 3) (by decide +kernel) rfl M1 hc hsl hP hD hS hl.1 rfl (Nat.le_of_ble_eq_true rfl) dL_law_1713 (fun H locs hP hD hS => ?_)
  refine lv_istore (lv' := [(6, .int kr), (0, .ref b), (1, .ref o), (2, .ref q0), (3, .ref out), (4, .ref outd), (5, .int (nI (4 * j)))]) hx hb dL_law_1716 hl (by decide) rfl (fun ls hl => ?_)
  refine lv_aload_n hx hb dL_law_1718 rfl (lv_at hl 3 rfl) ?_
  refine lv_aload_n hx hb dL_law_1719 rfl (lv_at hl 1 rfl) ?_
  refine lv_iload hx hb dL_law_1720 (lv_at hl 6 rfl) ?_
  refine lv_iconst (v := 1) hx hb dL_law_1722 (by decide) ?_
  refine ni_add hx hb (4 * j) 1 dL_law_1723 ?_
  refine l_sld C9 hS (4 * j + 1) (by omega) hL dL_law_1724 ?_
  have hP := l_swP hP
  have hD := l_swD hD
  refine lw_Vf C9 (As := [.int (xs (4 * j + 1))]) (rest := []) gL_law_X13_fluxOf rfl (maxL := 2) hr2 (n := 1) (by decide +kernel) rfl h2 (r9 := _) rfl rfl (M2 _) hc hsl hP hD hS hl.1 rfl (Nat.le_of_ble_eq_true rfl) dL_law_1725 (fun H locs hP hD hS => ?_)
  refine lv_fstore (lv' := [(7, .float br), (6, .int kr), (0, .ref b), (1, .ref o), (2, .ref q0), (3, .ref out), (4, .ref outd), (5, .int (nI (4 * j)))]) hx hb dL_law_1728 hl (by decide) rfl (fun ls hl => ?_)
  refine lv_aload_n hx hb dL_law_1730 rfl (lv_at hl 4 rfl) ?_
  refine lw_Ri C9 (As := []) (rest := []) gL_law_X13_thrown rfl (maxL := 1) hr3 (n := 0) (by decide +kernel) rfl h3 (r9 := _) rfl rfl M3 hc hsl (l_P1 (wr := we) (by rw [← hm]; exact l_P1 hP)) hl.1 rfl (Nat.le_of_ble_eq_true rfl) dL_law_1731 ?_
  refine lv_iload hx hb dL_law_1734 (lv_at hl 1 rfl) ?_
  refine lv_icmp_eq (tgt := 1741) hx hb dL_law_1736 (by decide) (fun c_1 => ?_) (fun c_1 => ?_)
  · skip
    refine lv_iload hx hb dL_law_1741 (lv_at hl 1 rfl) ?_
    refine lv_if_ne (tgt := 1779) hx hb dL_law_1743 (by decide) (fun c_2 => ?_) (fun c_2 => ?_)
    · skip
      refine lv_goto (tgt := 2694) hx hb dL_law_1779 (by decide) ?_
      have hP := l_swP hP
      have hD := l_swD hD
      exact kk ls H locs (lv_sub hl [2, 3, 4, 5, 6, 7] rfl) hP hD hS
    · skip
      refine lv_aload hx hb dL_law_1746 (lv_at hl 6 rfl) ?_
      refine lv_iconst (v := 0) hx hb dL_law_1748 (by decide) ?_
      have hP := l_swP hP
      have hD := l_swD hD
      refine l_da C9 (l_P1 hP) ho dL_law_1749 ?_
      refine lv_fload hx hb dL_law_1750 (lv_at hl 0 rfl) ?_
      refine lv_f2d hx hb dL_law_1752 (hq_br c_2) ?_
      refine lv_dcmp hx hb dL_law_1753 ?_
      refine lv_if_eq (tgt := 1779) hx hb dL_law_1754 (by decide) (fun c_3 => ?_) (fun c_3 => ?_)
      · skip
        refine lv_goto (tgt := 2694) hx hb dL_law_1779 (by decide) ?_
        exact kk ls H locs (lv_sub hl [2, 3, 4, 5, 6, 7] rfl) hP hD hS
      · exact absurd ((cmv_eq _ _).mpr (heq c_2)) c_3
  · exact absurd hth c_1

set_option maxHeartbeats 4000000 in
set_option maxRecDepth 100000 in
theorem lc_30 {br : Int32} {ou : Nat → Int64} (ho : wc'[i9]? = some (out, .inl (k 3, 1, .inr (.inl ou)))) (C9 : LC ks kv kf ka kw D k p s m c A b L xs)
    (hc : cells + 1 ≤ 603072)
    (hsl : slots + 6 ≤ 7182442)
    (j : Nat)
    (hj : 4 * j + 4 ≤ L)
    (hL : L ≤ 2048)
    (hr1 : rm1.cells = 1 ∧ rm1.slots = 6 ∧ rm1.frames + 1 ≤ 2048 ∧ 8 + (4 + 11) + rm1.locals ≤ 94400) (M1 : Met l yL_fluxBits wsL_fluxBits rm1 (LPc ks kv kf ka kw D k [.ref o, .int (xs (4 * j + 1)), .ref out] wc H.size) (WI D k wc' kr (va_A wc H.size)) 1 6 (va_A wc H.size))
    (hr2 : rm2.cells = 0 ∧ rm2.slots = 0 ∧ rm2.frames + 1 ≤ 2048 ∧ 8 + (2 + 11) + rm2.locals ≤ 94400) (M2 : ∀ sz : Nat, Met l yX13_fluxBits wsX13_fluxBits rm2 (WPc D k [.ref q0, .int (xs (4 * j + 1))] wd sz) (WI D k wd' br (va_A wd sz)) 0 0 (va_A wd sz)) (h2 : wd[0]? = some (q0, .inr (11, fs2)))
    (hr3 : rm3.cells = 0 ∧ rm3.slots = 0 ∧ rm3.frames + 1 ≤ 2048 ∧ 8 + (1 + 11) + rm3.locals ≤ 94400) (M3 : Met l yX13_thrown wsX13_thrown rm3 (RPc D k [.ref q0] wm) (EI th) 0 0 noA) (hm : wd' = wm ++ we) (h3 : wm[0]? = some (q0, .inr (11, fs3)))
    (hth : th = kr)
    (heq : kr = 0 → ou 0 = br.toInt64)
    (hP : va_P D vwCl (wc ++ (wd ++ wr)) H)
    (hD : va_D A (wc ++ (wd ++ wr)))
    (hS : va_S A s.heap H locs)
    (hl : lv_has ls 10 [(0, .ref b), (1, .ref o), (2, .ref q0), (3, .ref out), (4, .ref outd), (5, .int (nI (4 * j)))])
    (kk : ∀ (ls : Array Slot) (H : Heap) (locs : List Loc), lv_has ls 10 [(0, .ref b), (1, .ref o), (2, .ref q0), (3, .ref out), (4, .ref outd), (5, .int (nI (4 * j)))] → va_P D vwCl (wc' ++ (wd' ++ wr)) H → va_D A (wc' ++ (wd' ++ wr)) → va_S A s.heap H locs → W p l e room_1 s m #[Value.ref b] below meth c H locs (cells + 1) (slots + 6) Q (F0 m 2694 ls [])) : W p l e room_1 s m #[Value.ref b] below meth c H locs cells slots Q (F0 m 1782 ls []) := by
  obtain ⟨hF, hK, hN, hXN, hNC, hZ, hKC, hA, hX, hbl, hbA⟩ := id C9
  obtain ⟨hx, hb, hml, hown, hts⟩ := id hF
  refine lv_aload_n hx hb dL_law_1782 rfl (lv_at hl 1 rfl) ?_
  refine lv_aload_n hx hb dL_law_1783 rfl (lv_at hl 0 rfl) ?_
  refine lv_iload hx hb dL_law_1784 (lv_at hl 5 rfl) ?_
  refine lv_iconst (v := 1) hx hb dL_law_1786 (by decide) ?_
  refine ni_add hx hb (4 * j) 1 dL_law_1787 ?_
  refine l_sld C9 hS (4 * j + 1) (by omega) hL dL_law_1788 ?_
  refine lv_aload_n hx hb dL_law_1789 rfl (lv_at hl 3 rfl) ?_
  refine lw_S C9 (As := [.ref o, .int (xs (4 * j + 1)), .ref out]) (rest := []) gL_law_L_fluxBits rfl (maxL := 4) hr1 (n := 3) (by decide +kernel) rfl M1 hc hsl hP hD hS hl.1 rfl (Nat.le_of_ble_eq_true rfl) dL_law_1790 (fun H locs hP hD hS => ?_)
  refine lv_istore (lv' := [(6, .int kr), (0, .ref b), (1, .ref o), (2, .ref q0), (3, .ref out), (4, .ref outd), (5, .int (nI (4 * j)))]) hx hb dL_law_1793 hl (by decide) rfl (fun ls hl => ?_)
  refine lv_aload_n hx hb dL_law_1795 rfl (lv_at hl 3 rfl) ?_
  refine lv_aload_n hx hb dL_law_1796 rfl (lv_at hl 1 rfl) ?_
  refine lv_iload hx hb dL_law_1797 (lv_at hl 6 rfl) ?_
  refine lv_iconst (v := 1) hx hb dL_law_1799 (by decide) ?_
  refine ni_add hx hb (4 * j) 1 dL_law_1800 ?_
  refine l_sld C9 hS (4 * j + 1) (by omega) hL dL_law_1801 ?_
  have hP := l_swP hP
  have hD := l_swD hD
  refine lw_Vi C9 (As := [.int (xs (4 * j + 1))]) (rest := []) gL_law_X13_fluxBits rfl (maxL := 2) hr2 (n := 1) (by decide +kernel) rfl h2 (r9 := _) rfl rfl (M2 _) hc hsl hP hD hS hl.1 rfl (Nat.le_of_ble_eq_true rfl) dL_law_1802 (fun H locs hP hD hS => ?_)
  refine lv_istore (lv' := [(7, .int br), (6, .int kr), (0, .ref b), (1, .ref o), (2, .ref q0), (3, .ref out), (4, .ref outd), (5, .int (nI (4 * j)))]) hx hb dL_law_1805 hl (by decide) rfl (fun ls hl => ?_)
  refine lv_aload_n hx hb dL_law_1807 rfl (lv_at hl 4 rfl) ?_
  refine lw_Ri C9 (As := []) (rest := []) gL_law_X13_thrown rfl (maxL := 1) hr3 (n := 0) (by decide +kernel) rfl h3 (r9 := _) rfl rfl M3 hc hsl (l_P1 (wr := we) (by rw [← hm]; exact l_P1 hP)) hl.1 rfl (Nat.le_of_ble_eq_true rfl) dL_law_1808 ?_
  refine lv_iload hx hb dL_law_1811 (lv_at hl 1 rfl) ?_
  refine lv_icmp_eq (tgt := 1818) hx hb dL_law_1813 (by decide) (fun c_1 => ?_) (fun c_1 => ?_)
  · skip
    refine lv_iload hx hb dL_law_1818 (lv_at hl 1 rfl) ?_
    refine lv_if_ne (tgt := 1835) hx hb dL_law_1820 (by decide) (fun c_2 => ?_) (fun c_2 => ?_)
    · skip
      refine lv_goto (tgt := 2694) hx hb dL_law_1835 (by decide) ?_
      have hP := l_swP hP
      have hD := l_swD hD
      exact kk ls H locs (lv_sub hl [2, 3, 4, 5, 6, 7] rfl) hP hD hS
    · skip
      refine lv_aload_n hx hb dL_law_1823 rfl (lv_at hl 5 rfl) ?_
      refine lv_iconst (v := 0) hx hb dL_law_1824 (by decide) ?_
      have hP := l_swP hP
      have hD := l_swD hD
      refine l_la C9 (l_P1 hP) ho dL_law_1825 ?_
      refine lv_iload hx hb dL_law_1826 (lv_at hl 0 rfl) ?_
      refine lv_i2l hx hb dL_law_1828 rfl ?_
      refine W.lcmp hx hb dL_law_1829 ?_
      refine lv_if_eq (tgt := 1835) hx hb dL_law_1830 (by decide) (fun c_3 => ?_) (fun c_3 => ?_)
      · skip
        refine lv_goto (tgt := 2694) hx hb dL_law_1835 (by decide) ?_
        exact kk ls H locs (lv_sub hl [2, 3, 4, 5, 6, 7] rfl) hP hD hS
      · exact absurd (l_cmp0 (heq c_2)) c_3
  · exact absurd hth c_1

set_option maxHeartbeats 4000000 in
set_option maxRecDepth 100000 in
theorem lc_31 {br : UInt32} {xr : UInt32} (C9 : LC ks kv kf ka kw D k p s m c A b L xs)
    (hc : cells ≤ 603072)
    (hsl : slots ≤ 7182442)
    (j : Nat)
    (hj : 4 * j + 4 ≤ L)
    (hL : L ≤ 2048)
    (hr1 : rm1.cells = 0 ∧ rm1.slots = 0 ∧ rm1.frames + 1 ≤ 2048 ∧ 8 + (1 + 11) + rm1.locals ≤ 94400) (M1 : Met l yX12_power wsX12_power rm1 (RPc D k [.ref o] wc) (EF xr) 0 0 noA) (h1 : wc[0]? = some (o, .inr (10, fs1)))
    (hq_xr : vf_n64 (FP.f2d xr))
    (hr2 : rm2.cells = 0 ∧ rm2.slots = 0 ∧ rm2.frames + 1 ≤ 2048 ∧ 8 + (1 + 11) + rm2.locals ≤ 94400) (M2 : ∀ sz : Nat, Met l yX13_power wsX13_power rm2 (WPc D k [.ref q0] wd sz) (WF D k wd' br (va_A wd sz)) 0 0 (va_A wd sz)) (h2 : wd[0]? = some (q0, .inr (11, fs2)))
    (hq_br : vf_n64 (FP.f2d br))
    (heq : FP.dcmp (FP.f2d xr) (FP.f2d br) = some .eq)
    (hP : va_P D vwCl (wc ++ (wd ++ wr)) H)
    (hD : va_D A (wc ++ (wd ++ wr)))
    (hS : va_S A s.heap H locs)
    (hl : lv_has ls 10 [(0, .ref b), (1, .ref o), (2, .ref q0), (3, .ref out), (4, .ref outd), (5, .int (nI (4 * j)))])
    (kk : ∀ (ls : Array Slot) (H : Heap) (locs : List Loc), lv_has ls 10 [(0, .ref b), (1, .ref o), (2, .ref q0), (3, .ref out), (4, .ref outd), (5, .int (nI (4 * j)))] → va_P D vwCl (wc ++ (wd' ++ wr)) H → va_D A (wc ++ (wd' ++ wr)) → va_S A s.heap H locs → W p l e room_1 s m #[Value.ref b] below meth c H locs cells slots Q (F0 m 2694 ls [])) : W p l e room_1 s m #[Value.ref b] below meth c H locs cells slots Q (F0 m 1838 ls []) := by
  obtain ⟨hF, hK, hN, hXN, hNC, hZ, hKC, hA, hX, hbl, hbA⟩ := id C9
  obtain ⟨hx, hb, hml, hown, hts⟩ := id hF
  refine lv_aload_n hx hb dL_law_1838 rfl (lv_at hl 1 rfl) ?_
  refine lw_Rf C9 (As := []) (rest := []) gL_law_X12_power rfl (maxL := 1) hr1 (n := 0) (by decide +kernel) rfl h1 (r9 := _) rfl rfl M1 hc hsl (l_P1 hP) hl.1 rfl (Nat.le_of_ble_eq_true rfl) dL_law_1839 ?_
  refine lv_f2d hx hb dL_law_1842 hq_xr ?_
  refine lv_dstore (lv' := [(6, .double (FP.f2d xr)), (0, .ref b), (1, .ref o), (2, .ref q0), (3, .ref out), (4, .ref outd), (5, .int (nI (4 * j)))]) hx hb dL_law_1843 hl (by decide) rfl (fun ls hl => ?_)
  refine lv_aload_n hx hb dL_law_1845 rfl (lv_at hl 3 rfl) ?_
  have hP := l_swP hP
  have hD := l_swD hD
  refine lw_Vf C9 (As := []) (rest := []) gL_law_X13_power rfl (maxL := 1) hr2 (n := 0) (by decide +kernel) rfl h2 (r9 := _) rfl rfl (M2 _) hc hsl hP hD hS hl.1 rfl (Nat.le_of_ble_eq_true rfl) dL_law_1846 (fun H locs hP hD hS => ?_)
  refine lv_f2d hx hb dL_law_1849 hq_br ?_
  refine lv_dstore (lv' := [(8, .double (FP.f2d br)), (6, .double (FP.f2d xr)), (0, .ref b), (1, .ref o), (2, .ref q0), (3, .ref out), (4, .ref outd), (5, .int (nI (4 * j)))]) hx hb dL_law_1850 hl (by decide) rfl (fun ls hl => ?_)
  refine lv_dload hx hb dL_law_1852 (lv_at hl 1 rfl) ?_
  refine lv_dload hx hb dL_law_1854 (lv_at hl 0 rfl) ?_
  refine lv_dcmp hx hb dL_law_1856 ?_
  refine lv_if_eq (tgt := 1878) hx hb dL_law_1857 (by decide) (fun c_1 => ?_) (fun c_1 => ?_)
  · skip
    refine lv_goto (tgt := 2694) hx hb dL_law_1878 (by decide) ?_
    have hP := l_swP hP
    have hD := l_swD hD
    exact kk ls H locs (lv_sub hl [2, 3, 4, 5, 6, 7] rfl) hP hD hS
  · exact absurd ((cmv_eq _ _).mpr heq) c_1

set_option maxHeartbeats 4000000 in
set_option maxRecDepth 100000 in
theorem lc_32 {br : Int32} {xr : Int32} (C9 : LC ks kv kf ka kw D k p s m c A b L xs)
    (hc : cells ≤ 603072)
    (hsl : slots ≤ 7182442)
    (j : Nat)
    (hj : 4 * j + 4 ≤ L)
    (hL : L ≤ 2048)
    (hr1 : rm1.cells = 0 ∧ rm1.slots = 0 ∧ rm1.frames + 1 ≤ 2048 ∧ 8 + (1 + 11) + rm1.locals ≤ 94400) (M1 : Met l yX12_powerBits wsX12_powerBits rm1 (RPc D k [.ref o] wc) (EI xr) 0 0 noA) (h1 : wc[0]? = some (o, .inr (10, fs1)))
    (hr2 : rm2.cells = 0 ∧ rm2.slots = 0 ∧ rm2.frames + 1 ≤ 2048 ∧ 8 + (1 + 11) + rm2.locals ≤ 94400) (M2 : ∀ sz : Nat, Met l yX13_powerBits wsX13_powerBits rm2 (WPc D k [.ref q0] wd sz) (WI D k wd' br (va_A wd sz)) 0 0 (va_A wd sz)) (h2 : wd[0]? = some (q0, .inr (11, fs2)))
    (heq : xr = br)
    (hP : va_P D vwCl (wc ++ (wd ++ wr)) H)
    (hD : va_D A (wc ++ (wd ++ wr)))
    (hS : va_S A s.heap H locs)
    (hl : lv_has ls 10 [(0, .ref b), (1, .ref o), (2, .ref q0), (3, .ref out), (4, .ref outd), (5, .int (nI (4 * j)))])
    (kk : ∀ (ls : Array Slot) (H : Heap) (locs : List Loc), lv_has ls 10 [(0, .ref b), (1, .ref o), (2, .ref q0), (3, .ref out), (4, .ref outd), (5, .int (nI (4 * j)))] → va_P D vwCl (wc ++ (wd' ++ wr)) H → va_D A (wc ++ (wd' ++ wr)) → va_S A s.heap H locs → W p l e room_1 s m #[Value.ref b] below meth c H locs cells slots Q (F0 m 2694 ls [])) : W p l e room_1 s m #[Value.ref b] below meth c H locs cells slots Q (F0 m 1881 ls []) := by
  obtain ⟨hF, hK, hN, hXN, hNC, hZ, hKC, hA, hX, hbl, hbA⟩ := id C9
  obtain ⟨hx, hb, hml, hown, hts⟩ := id hF
  refine lv_aload_n hx hb dL_law_1881 rfl (lv_at hl 1 rfl) ?_
  refine lw_Ri C9 (As := []) (rest := []) gL_law_X12_powerBits rfl (maxL := 1) hr1 (n := 0) (by decide +kernel) rfl h1 (r9 := _) rfl rfl M1 hc hsl (l_P1 hP) hl.1 rfl (Nat.le_of_ble_eq_true rfl) dL_law_1882 ?_
  refine lv_aload_n hx hb dL_law_1885 rfl (lv_at hl 2 rfl) ?_
  have hP := l_swP hP
  have hD := l_swD hD
  refine lw_Vi C9 (As := []) (rest := [.int xr]) gL_law_X13_powerBits rfl (maxL := 1) hr2 (n := 0) (by decide +kernel) rfl h2 (r9 := _) rfl rfl (M2 _) hc hsl hP hD hS hl.1 rfl (Nat.le_of_ble_eq_true rfl) dL_law_1886 (fun H locs hP hD hS => ?_)
  refine lv_icmp_eq (tgt := 2694) hx hb dL_law_1889 (by decide) (fun c_1 => ?_) (fun c_1 => ?_)
  · skip
    have hP := l_swP hP
    have hD := l_swD hD
    exact kk ls H locs (lv_sub hl [0, 1, 2, 3, 4, 5] rfl) hP hD hS
  · exact absurd heq c_1

set_option maxHeartbeats 4000000 in
set_option maxRecDepth 100000 in
theorem lc_33 {br : Int32} {ou : Nat → Int64} (ho : wc'[i9]? = some (out, .inl (k 3, 1, .inr (.inl ou)))) (C9 : LC ks kv kf ka kw D k p s m c A b L xs)
    (hc : cells + 1 ≤ 603072)
    (hsl : slots + 6 ≤ 7182442)
    (j : Nat)
    (hj : 4 * j + 4 ≤ L)
    (hL : L ≤ 2048)
    (hr1 : rm1.cells = 1 ∧ rm1.slots = 6 ∧ rm1.frames + 1 ≤ 2048 ∧ 8 + (4 + 11) + rm1.locals ≤ 94400) (M1 : Met l yL_shiftsUntilBelow wsL_shiftsUntilBelow rm1 (LPc ks kv kf ka kw D k [.ref o, .int (xs (4 * j + 1)), .ref out] wc H.size) (WI D k wc' kr (va_A wc H.size)) 1 6 (va_A wc H.size))
    (hr2 : rm2.cells = 0 ∧ rm2.slots = 0 ∧ rm2.frames + 1 ≤ 2048 ∧ 8 + (3 + 11) + rm2.locals ≤ 94400) (M2 : ∀ sz : Nat, Met l yX13_shiftsUntilBelow wsX13_shiftsUntilBelow rm2 (WPc D k [.ref q0, .int (xs (4 * j + 1))] wd sz) (WI D k wd' br (va_A wd sz)) 0 0 (va_A wd sz)) (h2 : wd[0]? = some (q0, .inr (11, fs2)))
    (hr3 : rm3.cells = 0 ∧ rm3.slots = 0 ∧ rm3.frames + 1 ≤ 2048 ∧ 8 + (1 + 11) + rm3.locals ≤ 94400) (M3 : Met l yX13_thrown wsX13_thrown rm3 (RPc D k [.ref q0] wm) (EI th) 0 0 noA) (hm : wd' = wm ++ we) (h3 : wm[0]? = some (q0, .inr (11, fs3)))
    (hth : th = kr)
    (heq : kr = 0 → ou 0 = br.toInt64)
    (hP : va_P D vwCl (wc ++ (wd ++ wr)) H)
    (hD : va_D A (wc ++ (wd ++ wr)))
    (hS : va_S A s.heap H locs)
    (hl : lv_has ls 10 [(0, .ref b), (1, .ref o), (2, .ref q0), (3, .ref out), (4, .ref outd), (5, .int (nI (4 * j)))])
    (kk : ∀ (ls : Array Slot) (H : Heap) (locs : List Loc), lv_has ls 10 [(0, .ref b), (1, .ref o), (2, .ref q0), (3, .ref out), (4, .ref outd), (5, .int (nI (4 * j)))] → va_P D vwCl (wc' ++ (wd' ++ wr)) H → va_D A (wc' ++ (wd' ++ wr)) → va_S A s.heap H locs → W p l e room_1 s m #[Value.ref b] below meth c H locs (cells + 1) (slots + 6) Q (F0 m 2694 ls [])) : W p l e room_1 s m #[Value.ref b] below meth c H locs cells slots Q (F0 m 1894 ls []) := by
  obtain ⟨hF, hK, hN, hXN, hNC, hZ, hKC, hA, hX, hbl, hbA⟩ := id C9
  obtain ⟨hx, hb, hml, hown, hts⟩ := id hF
  refine lv_aload_n hx hb dL_law_1894 rfl (lv_at hl 1 rfl) ?_
  refine lv_aload_n hx hb dL_law_1895 rfl (lv_at hl 0 rfl) ?_
  refine lv_iload hx hb dL_law_1896 (lv_at hl 5 rfl) ?_
  refine lv_iconst (v := 1) hx hb dL_law_1898 (by decide) ?_
  refine ni_add hx hb (4 * j) 1 dL_law_1899 ?_
  refine l_sld C9 hS (4 * j + 1) (by omega) hL dL_law_1900 ?_
  refine lv_aload_n hx hb dL_law_1901 rfl (lv_at hl 3 rfl) ?_
  refine lw_S C9 (As := [.ref o, .int (xs (4 * j + 1)), .ref out]) (rest := []) gL_law_L_shiftsUntilBelow rfl (maxL := 4) hr1 (n := 3) (by decide +kernel) rfl M1 hc hsl hP hD hS hl.1 rfl (Nat.le_of_ble_eq_true rfl) dL_law_1902 (fun H locs hP hD hS => ?_)
  refine lv_istore (lv' := [(6, .int kr), (0, .ref b), (1, .ref o), (2, .ref q0), (3, .ref out), (4, .ref outd), (5, .int (nI (4 * j)))]) hx hb dL_law_1905 hl (by decide) rfl (fun ls hl => ?_)
  refine lv_aload_n hx hb dL_law_1907 rfl (lv_at hl 3 rfl) ?_
  refine lv_aload_n hx hb dL_law_1908 rfl (lv_at hl 1 rfl) ?_
  refine lv_iload hx hb dL_law_1909 (lv_at hl 6 rfl) ?_
  refine lv_iconst (v := 1) hx hb dL_law_1911 (by decide) ?_
  refine ni_add hx hb (4 * j) 1 dL_law_1912 ?_
  refine l_sld C9 hS (4 * j + 1) (by omega) hL dL_law_1913 ?_
  have hP := l_swP hP
  have hD := l_swD hD
  refine lw_Vi C9 (As := [.int (xs (4 * j + 1))]) (rest := []) gL_law_X13_shiftsUntilBelow rfl (maxL := 3) hr2 (n := 1) (by decide +kernel) rfl h2 (r9 := _) rfl rfl (M2 _) hc hsl hP hD hS hl.1 rfl (Nat.le_of_ble_eq_true rfl) dL_law_1914 (fun H locs hP hD hS => ?_)
  refine lv_istore (lv' := [(7, .int br), (6, .int kr), (0, .ref b), (1, .ref o), (2, .ref q0), (3, .ref out), (4, .ref outd), (5, .int (nI (4 * j)))]) hx hb dL_law_1917 hl (by decide) rfl (fun ls hl => ?_)
  refine lv_aload_n hx hb dL_law_1919 rfl (lv_at hl 4 rfl) ?_
  refine lw_Ri C9 (As := []) (rest := []) gL_law_X13_thrown rfl (maxL := 1) hr3 (n := 0) (by decide +kernel) rfl h3 (r9 := _) rfl rfl M3 hc hsl (l_P1 (wr := we) (by rw [← hm]; exact l_P1 hP)) hl.1 rfl (Nat.le_of_ble_eq_true rfl) dL_law_1920 ?_
  refine lv_iload hx hb dL_law_1923 (lv_at hl 1 rfl) ?_
  refine lv_icmp_eq (tgt := 1930) hx hb dL_law_1925 (by decide) (fun c_1 => ?_) (fun c_1 => ?_)
  · skip
    refine lv_iload hx hb dL_law_1930 (lv_at hl 1 rfl) ?_
    refine lv_if_ne (tgt := 1947) hx hb dL_law_1932 (by decide) (fun c_2 => ?_) (fun c_2 => ?_)
    · skip
      refine lv_goto (tgt := 2694) hx hb dL_law_1947 (by decide) ?_
      have hP := l_swP hP
      have hD := l_swD hD
      exact kk ls H locs (lv_sub hl [2, 3, 4, 5, 6, 7] rfl) hP hD hS
    · skip
      refine lv_aload_n hx hb dL_law_1935 rfl (lv_at hl 5 rfl) ?_
      refine lv_iconst (v := 0) hx hb dL_law_1936 (by decide) ?_
      have hP := l_swP hP
      have hD := l_swD hD
      refine l_la C9 (l_P1 hP) ho dL_law_1937 ?_
      refine lv_iload hx hb dL_law_1938 (lv_at hl 0 rfl) ?_
      refine lv_i2l hx hb dL_law_1940 rfl ?_
      refine W.lcmp hx hb dL_law_1941 ?_
      refine lv_if_eq (tgt := 1947) hx hb dL_law_1942 (by decide) (fun c_3 => ?_) (fun c_3 => ?_)
      · skip
        refine lv_goto (tgt := 2694) hx hb dL_law_1947 (by decide) ?_
        exact kk ls H locs (lv_sub hl [2, 3, 4, 5, 6, 7] rfl) hP hD hS
      · exact absurd (l_cmp0 (heq c_2)) c_3
  · exact absurd hth c_1

set_option maxHeartbeats 4000000 in
set_option maxRecDepth 100000 in
theorem lc_34 {br : Int32} {xr : Int32} (C9 : LC ks kv kf ka kw D k p s m c A b L xs)
    (hc : cells ≤ 603072)
    (hsl : slots ≤ 7182442)
    (j : Nat)
    (hj : 4 * j + 4 ≤ L)
    (hL : L ≤ 2048)
    (hr1 : rm1.cells = 0 ∧ rm1.slots = 0 ∧ rm1.frames + 1 ≤ 2048 ∧ 8 + (1 + 11) + rm1.locals ≤ 94400) (M1 : Met l yX12_shiftCount wsX12_shiftCount rm1 (RPc D k [.ref o] wc) (EI xr) 0 0 noA) (h1 : wc[0]? = some (o, .inr (10, fs1)))
    (hr2 : rm2.cells = 0 ∧ rm2.slots = 0 ∧ rm2.frames + 1 ≤ 2048 ∧ 8 + (1 + 11) + rm2.locals ≤ 94400) (M2 : ∀ sz : Nat, Met l yX13_shiftCount wsX13_shiftCount rm2 (WPc D k [.ref q0] wd sz) (WI D k wd' br (va_A wd sz)) 0 0 (va_A wd sz)) (h2 : wd[0]? = some (q0, .inr (11, fs2)))
    (heq : xr = br)
    (hP : va_P D vwCl (wc ++ (wd ++ wr)) H)
    (hD : va_D A (wc ++ (wd ++ wr)))
    (hS : va_S A s.heap H locs)
    (hl : lv_has ls 10 [(0, .ref b), (1, .ref o), (2, .ref q0), (3, .ref out), (4, .ref outd), (5, .int (nI (4 * j)))])
    (kk : ∀ (ls : Array Slot) (H : Heap) (locs : List Loc), lv_has ls 10 [(0, .ref b), (1, .ref o), (2, .ref q0), (3, .ref out), (4, .ref outd), (5, .int (nI (4 * j)))] → va_P D vwCl (wc ++ (wd' ++ wr)) H → va_D A (wc ++ (wd' ++ wr)) → va_S A s.heap H locs → W p l e room_1 s m #[Value.ref b] below meth c H locs cells slots Q (F0 m 2694 ls [])) : W p l e room_1 s m #[Value.ref b] below meth c H locs cells slots Q (F0 m 1950 ls []) := by
  obtain ⟨hF, hK, hN, hXN, hNC, hZ, hKC, hA, hX, hbl, hbA⟩ := id C9
  obtain ⟨hx, hb, hml, hown, hts⟩ := id hF
  refine lv_aload_n hx hb dL_law_1950 rfl (lv_at hl 1 rfl) ?_
  refine lw_Ri C9 (As := []) (rest := []) gL_law_X12_shiftCount rfl (maxL := 1) hr1 (n := 0) (by decide +kernel) rfl h1 (r9 := _) rfl rfl M1 hc hsl (l_P1 hP) hl.1 rfl (Nat.le_of_ble_eq_true rfl) dL_law_1951 ?_
  refine lv_aload_n hx hb dL_law_1954 rfl (lv_at hl 2 rfl) ?_
  have hP := l_swP hP
  have hD := l_swD hD
  refine lw_Vi C9 (As := []) (rest := [.int xr]) gL_law_X13_shiftCount rfl (maxL := 1) hr2 (n := 0) (by decide +kernel) rfl h2 (r9 := _) rfl rfl (M2 _) hc hsl hP hD hS hl.1 rfl (Nat.le_of_ble_eq_true rfl) dL_law_1955 (fun H locs hP hD hS => ?_)
  refine lv_icmp_eq (tgt := 2694) hx hb dL_law_1958 (by decide) (fun c_1 => ?_) (fun c_1 => ?_)
  · skip
    have hP := l_swP hP
    have hD := l_swD hD
    exact kk ls H locs (lv_sub hl [0, 1, 2, 3, 4, 5] rfl) hP hD hS
  · exact absurd heq c_1

set_option maxHeartbeats 4000000 in
set_option maxRecDepth 100000 in
theorem lc_35 {br : Int32} {xr : Int32} (C9 : LC ks kv kf ka kw D k p s m c A b L xs)
    (hc : cells ≤ 603072)
    (hsl : slots ≤ 7182442)
    (j : Nat)
    (hj : 4 * j + 4 ≤ L)
    (hL : L ≤ 2048)
    (hr1 : rm1.cells = 0 ∧ rm1.slots = 0 ∧ rm1.frames + 1 ≤ 2048 ∧ 8 + (1 + 11) + rm1.locals ≤ 94400) (M1 : Met l yX12_scrams wsX12_scrams rm1 (RPc D k [.ref o] wc) (EI xr) 0 0 noA) (h1 : wc[0]? = some (o, .inr (10, fs1)))
    (hr2 : rm2.cells = 0 ∧ rm2.slots = 0 ∧ rm2.frames + 1 ≤ 2048 ∧ 8 + (1 + 11) + rm2.locals ≤ 94400) (M2 : ∀ sz : Nat, Met l yX13_scrams wsX13_scrams rm2 (WPc D k [.ref q0] wd sz) (WI D k wd' br (va_A wd sz)) 0 0 (va_A wd sz)) (h2 : wd[0]? = some (q0, .inr (11, fs2)))
    (heq : xr = br)
    (hP : va_P D vwCl (wc ++ (wd ++ wr)) H)
    (hD : va_D A (wc ++ (wd ++ wr)))
    (hS : va_S A s.heap H locs)
    (hl : lv_has ls 10 [(0, .ref b), (1, .ref o), (2, .ref q0), (3, .ref out), (4, .ref outd), (5, .int (nI (4 * j)))])
    (kk : ∀ (ls : Array Slot) (H : Heap) (locs : List Loc), lv_has ls 10 [(0, .ref b), (1, .ref o), (2, .ref q0), (3, .ref out), (4, .ref outd), (5, .int (nI (4 * j)))] → va_P D vwCl (wc ++ (wd' ++ wr)) H → va_D A (wc ++ (wd' ++ wr)) → va_S A s.heap H locs → W p l e room_1 s m #[Value.ref b] below meth c H locs cells slots Q (F0 m 2694 ls [])) : W p l e room_1 s m #[Value.ref b] below meth c H locs cells slots Q (F0 m 1963 ls []) := by
  obtain ⟨hF, hK, hN, hXN, hNC, hZ, hKC, hA, hX, hbl, hbA⟩ := id C9
  obtain ⟨hx, hb, hml, hown, hts⟩ := id hF
  refine lv_aload_n hx hb dL_law_1963 rfl (lv_at hl 1 rfl) ?_
  refine lw_Ri C9 (As := []) (rest := []) gL_law_X12_scrams rfl (maxL := 1) hr1 (n := 0) (by decide +kernel) rfl h1 (r9 := _) rfl rfl M1 hc hsl (l_P1 hP) hl.1 rfl (Nat.le_of_ble_eq_true rfl) dL_law_1964 ?_
  refine lv_aload_n hx hb dL_law_1967 rfl (lv_at hl 2 rfl) ?_
  have hP := l_swP hP
  have hD := l_swD hD
  refine lw_Vi C9 (As := []) (rest := [.int xr]) gL_law_X13_scrams rfl (maxL := 1) hr2 (n := 0) (by decide +kernel) rfl h2 (r9 := _) rfl rfl (M2 _) hc hsl hP hD hS hl.1 rfl (Nat.le_of_ble_eq_true rfl) dL_law_1968 (fun H locs hP hD hS => ?_)
  refine lv_icmp_eq (tgt := 2694) hx hb dL_law_1971 (by decide) (fun c_1 => ?_) (fun c_1 => ?_)
  · skip
    have hP := l_swP hP
    have hD := l_swD hD
    exact kk ls H locs (lv_sub hl [0, 1, 2, 3, 4, 5] rfl) hP hD hS
  · exact absurd heq c_1

end LAWC
