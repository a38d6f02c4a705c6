/-! what the numbered tables say is among lw_tbl: checked by the kernel, a list at a time -/
/-- the classes of objects by number: class, reference, and lists -/
def vcl : List vw_C := [(RX0, TX0, 3), (RX1, TX1, 1), (RX2, TX2, 2), (RX3, TX3, 10), (RX4, TX4, 4), (RX5, TX5, 4), (RX6, TX6, 3), (RX7, TX7, 3), (RX8, TX8, 8), (RX9, TX9, 30), (RJx4a65c, TJx4a65c, 3)]
def vtys : List (Nat → FieldType) := [tyX0, tyX1, tyX2, tyX3, tyX4, tyX5, tyX6, tyX7, tyX8, tyX9, tyJx4a65c]
def mcl (y : Nat) : Nat := mclt.getD y 99
def mword (r : MRow) : Cond := match r.2.2.2.2 with
  | [] => .code r.1 r.2.1 r.2.2.1 r.2.2.2.1
  | hh => .codeWith r.1 r.2.1 r.2.2.1 r.2.2.2.1 hh
theorem mc_of {l : List MRow} {ps : List Nat} (h : l.map mword = ps.filterMap (fun i => lw_tbl[i]?)) : ∀ r ∈ l, mword r ∈ lw_tbl := by
  intro r hr
  have h1 : mword r ∈ l.map mword := List.mem_map_of_mem hr
  rw [h] at h1
  obtain ⟨i, -, hi⟩ := List.mem_filterMap.mp h1
  exact List.mem_of_getElem? hi
def okM (q : MRow × Nat × (Nat × Nat × Nat × Nat × Nat × Nat)) : Bool :=
  match q with
  | (r, o, (_, kd, pk, pi, ps, n)) => decide (r.1.cls = cnm o) && decide (o < 11) && decide (lw_tbl[pk]? = some (if kd = 0 then .static r.1 else .instanceMethod r.1)) && decide (lw_tbl[pi]? = some (.initialized r.1.cls)) && (kd != 2 || decide (lw_tbl[ps]? = some (.selects r.1.cls r.1 r.1))) && (kd != 1 || (decide (r.1.name = "<init>") && decide (r.2.2.2.1 = none))) && decide ((parseMethodDescriptor r.1.desc).map (fun d => d.parameters.length) = some n) && plainName r.1.cls && decide (kd ≤ 2) && decide (r.2.2.1 ≤ 20)
set_option maxRecDepth 100000 in
set_option maxHeartbeats 4000000 in
theorem mcw_0 : mtab_0.map mword = ([1170, 1306, 471, 1206, 995, 604, 340, 136, 332, 596, 142, 541, 357, 344, 350, 640, 611, 567, 324, 929, 102, 494, 563, 272] : List Nat).filterMap (fun i => lw_tbl[i]?) := rfl
theorem mc_0 : ∀ r ∈ mtab_0, mword r ∈ lw_tbl := mc_of mcw_0
set_option maxRecDepth 100000 in
set_option maxHeartbeats 4000000 in
theorem mt_ok0 : ((mtab_0.zip ((mclt.drop 0).zip (mfct.drop 0))).all okM) = true := by decide +kernel
set_option maxRecDepth 100000 in
set_option maxHeartbeats 4000000 in
theorem mcw_1 : mtab_1.map mword = ([587, 909, 936, 958, 1048, 1056, 1063, 1090, 276, 1097, 1113, 1120, 1127, 1134, 1141, 1152, 1159, 1166, 1191, 1223, 1230, 1237, 1244, 1253] : List Nat).filterMap (fun i => lw_tbl[i]?) := rfl
theorem mc_1 : ∀ r ∈ mtab_1, mword r ∈ lw_tbl := mc_of mcw_1
set_option maxRecDepth 100000 in
set_option maxHeartbeats 4000000 in
theorem mt_ok1 : ((mtab_1.zip ((mclt.drop 24).zip (mfct.drop 24))).all okM) = true := by decide +kernel
set_option maxRecDepth 100000 in
set_option maxHeartbeats 4000000 in
theorem mcw_2 : mtab_2.map mword = ([1263, 1270, 1277, 1284, 1291, 1318, 1326, 1336, 1343, 1350, 284, 1357, 1365, 303, 517, 521, 971, 967, 394, 390, 962, 498, 1067, 1201] : List Nat).filterMap (fun i => lw_tbl[i]?) := rfl
theorem mc_2 : ∀ r ∈ mtab_2, mword r ∈ lw_tbl := mc_of mcw_2
set_option maxRecDepth 100000 in
set_option maxHeartbeats 4000000 in
theorem mt_ok2 : ((mtab_2.zip ((mclt.drop 48).zip (mfct.drop 48))).all okM) = true := by decide +kernel
set_option maxRecDepth 100000 in
set_option maxHeartbeats 4000000 in
theorem mcw_3 : mtab_3.map mword = ([591, 320, 328, 361, 600, 316, 312, 336, 353, 636, 629, 633, 1073, 607, 485, 479, 482, 1144, 1196, 374, 377, 1106, 1256, 1079] : List Nat).filterMap (fun i => lw_tbl[i]?) := rfl
theorem mc_3 : ∀ r ∈ mtab_3, mword r ∈ lw_tbl := mc_of mcw_3
set_option maxRecDepth 100000 in
set_option maxHeartbeats 4000000 in
theorem mt_ok3 : ((mtab_3.zip ((mclt.drop 72).zip (mfct.drop 72))).all okM) = true := by decide +kernel
set_option maxRecDepth 100000 in
set_option maxHeartbeats 4000000 in
theorem mcw_4 : mtab_4.map mword = ([1076, 1102, 1083, 1296, 1300, 1303, 386, 307, 365, 369, 382, 475, 1371, 1476, 1494, 1486, 1483, 1550, 1569, 1589, 1480, 1490, 1498, 1506] : List Nat).filterMap (fun i => lw_tbl[i]?) := rfl
theorem mc_4 : ∀ r ∈ mtab_4, mword r ∈ lw_tbl := mc_of mcw_4
set_option maxRecDepth 100000 in
set_option maxHeartbeats 4000000 in
theorem mt_ok4 : ((mtab_4.zip ((mclt.drop 96).zip (mfct.drop 96))).all okM) = true := by decide +kernel
set_option maxRecDepth 100000 in
set_option maxHeartbeats 4000000 in
theorem mcw_5 : mtab_5.map mword = ([1514, 1510, 1502, 1546, 1554, 1534, 1530, 1542, 1538, 1526, 1522, 1518, 1565, 1562, 1573, 1558, 1577, 1581, 1585, 1599, 1603, 1607, 1623, 1619] : List Nat).filterMap (fun i => lw_tbl[i]?) := rfl
theorem mc_5 : ∀ r ∈ mtab_5, mword r ∈ lw_tbl := mc_of mcw_5
set_option maxRecDepth 100000 in
set_option maxHeartbeats 4000000 in
theorem mt_ok5 : ((mtab_5.zip ((mclt.drop 120).zip (mfct.drop 120))).all okM) = true := by decide +kernel
set_option maxRecDepth 100000 in
set_option maxHeartbeats 4000000 in
theorem mcw_6 : mtab_6.map mword = ([1615, 1611, 1644, 1631, 1627, 1635, 1640, 1648, 1652, 1657, 1661, 1669, 1665, 1673, 1677, 1682, 1593, 1686, 1694, 1690, 1698, 1702, 1706, 1710] : List Nat).filterMap (fun i => lw_tbl[i]?) := rfl
theorem mc_6 : ∀ r ∈ mtab_6, mword r ∈ lw_tbl := mc_of mcw_6
set_option maxRecDepth 100000 in
set_option maxHeartbeats 4000000 in
theorem mt_ok6 : ((mtab_6.zip ((mclt.drop 144).zip (mfct.drop 144))).all okM) = true := by decide +kernel
set_option maxRecDepth 100000 in
set_option maxHeartbeats 4000000 in
theorem mcw_7 : mtab_7.map mword = ([1714, 1720, 1730, 1724, 1734, 1738, 1743, 1747, 1751, 1756, 1760, 488, 559, 583, 888, 932, 939, 1044, 1052, 1059, 1086, 1093, 1109, 1116] : List Nat).filterMap (fun i => lw_tbl[i]?) := rfl
theorem mc_7 : ∀ r ∈ mtab_7, mword r ∈ lw_tbl := mc_of mcw_7
set_option maxRecDepth 100000 in
set_option maxHeartbeats 4000000 in
theorem mt_ok7 : ((mtab_7.zip ((mclt.drop 168).zip (mfct.drop 168))).all okM) = true := by decide +kernel
set_option maxRecDepth 100000 in
set_option maxHeartbeats 4000000 in
theorem mcw_8 : mtab_8.map mword = ([1123, 1130, 1137, 1148, 1155, 1162, 1187, 1219, 1226, 1233, 1240, 1249, 1259, 1266, 1273, 1280, 1287, 1314, 1322, 1332, 1339, 1346, 1353, 1361] : List Nat).filterMap (fun i => lw_tbl[i]?) := rfl
theorem mc_8 : ∀ r ∈ mtab_8, mword r ∈ lw_tbl := mc_of mcw_8
set_option maxRecDepth 100000 in
set_option maxHeartbeats 4000000 in
theorem mt_ok8 : ((mtab_8.zip ((mclt.drop 192).zip (mfct.drop 192))).all okM) = true := by decide +kernel
theorem mt_len : mtab.length = 217 ∧ mclt.length = 217 ∧ mfct.length = 217 := by decide +kernel
def fT (ci k : Nat) : String × String × String × Bool := match vcl[ci]? with
  | some q => q.2.1 k
  | none => ("", "", "", false)
def fN (ci : Nat) : Nat := match vcl[ci]? with
  | some q => q.2.2
  | none => 0
def okF (q : Nat × Nat × Nat × Nat × Nat) : Bool := match q with
  | (o, idx, ci, k, pl) => decide (lw_tbl[pl]? = some (.fieldLink (cnm o) idx (fT ci k).1 (fT ci k).2.1 (fT ci k).2.2.1)) && decide (k < fN ci) && decide (ci < 10)
set_option maxRecDepth 100000 in
theorem fl_ok : fltab.all okF = true := by decide +kernel
def okL (q : Nat × Nat × Nat × Nat) : Bool := match q with
  | (o, idx, y, pl) => match mtab[y]? with
    | some r => decide (lw_tbl[pl]? = some (.methodLink (cnm o) idx r.1))
    | none => false
set_option maxRecDepth 100000 in
set_option maxHeartbeats 4000000 in
theorem ml_ok : mltab.all okL = true := by decide +kernel
def okC (q : Nat × Nat × Nat × Nat) : Bool := match q with
  | (o, idx, ci, pl) => decide (lw_tbl[pl]? = some (.classLink (cnm o) idx (cnm (if ci = 11 then 11 else ci))))
set_option maxRecDepth 100000 in
theorem cl_ok : cltab.all okC = true := by decide +kernel
set_option maxRecDepth 100000 in
theorem ex_ok : extab.all (fun q => decide (lw_tbl[q.2.2.2]? = some (.classLink (cnm q.1) q.2.1 (exnm q.2.2.1))) && decide (q.2.2.1 < 6)) = true := by decide +kernel
set_option maxRecDepth 100000 in
theorem co_ok : cotab.all (fun q => decide (lw_tbl[q.2.2.2]? = some (.constant (cnm q.1) q.2.1 q.2.2.1))) = true := by decide +kernel
set_option maxRecDepth 100000 in
theorem coL_ok : coLtab.all (fun q => decide (lw_tbl[q.2.2.2]? = some (.constantLong (cnm q.1) q.2.1 q.2.2.1))) = true := by decide +kernel
set_option maxRecDepth 100000 in
theorem coF_ok : coFtab.all (fun q => decide (lw_tbl[q.2.2.2]? = some (.constantFloat (cnm q.1) q.2.1 q.2.2.1))) = true := by decide +kernel
def WS : List Cond := lw_tbl.filter goodWord
theorem WS_good : ∀ w ∈ WS, (w.onTables && w.keeps) = true ∨ ∃ ty, w = .arrayClass ty := fun w h => good_of_word (List.mem_filter.mp h).2
