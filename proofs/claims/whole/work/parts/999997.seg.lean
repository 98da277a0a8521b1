/-! ===== what is given at the start ===== -/
def flN : List Cond := flatC (Jvm.Cond.and given_1 narrow_1)
def arSeg (tm : Term) (n : Nat) (f : Nat → Int32) : List Cond := Cond.arrayOf tm .int :: Cond.eq (.length tm) (.int (Int32.ofNat n)) :: (List.range n).map (fun j => Cond.eq (.elem tm (.int (Int32.ofNat j))) (.int (f j)))
def stSeg (tm : Term) (w : List Int32) : List Cond := Cond.exactly tm "java/lang/String" :: Cond.eq (.field tm "java/lang/String" "coder" "B") (.int 0) :: Cond.arrayOf (.field tm "java/lang/String" "value" "[B") .byte :: Cond.eq (.length (.field tm "java/lang/String" "value" "[B")) (.int (Int32.ofNat w.length)) :: (List.range w.length).map (fun j => Cond.eq (.elem (.field tm "java/lang/String" "value" "[B") (.int (Int32.ofNat j))) (.int ((w[j]?).getD 0)))
theorem seg_mem {l seg : List Cond} {k n : Nat} (h : (l.drop k).take n = seg) : ∀ w ∈ seg, w ∈ l := by
  intro w hw
  rw [← h] at hw
  exact List.mem_of_mem_drop (List.mem_of_mem_take hw)
/-- the static rows -/
def sF (j k : Nat) : Int32 := (((([[0, 10, 20, 30, 40, 45, 40, 25, 10, 2, 3, 4, 6, 9, 14, 22, 34, 50, 10, 10, 10, 3, -1], [0, 9, 18, 19, 20, 21, 22], [9, 9, 1, 1, 1, 1, 1], [0, 0, 1, 1, 0, 0, 10], [99, 99, 50, 99, 99, 9, 99], [0, 98, 195, 290, 383, 471, 556, 634, 707, 773, 831, 882, 924, 957, 981, 995, 1000], [98, 97, 95, 93, 88, 85, 78, 73, 66, 58, 51, 42, 33, 24, 14, 5]] : List (List Int32))[j]?).getD [])[k]?).getD 0
def sN (j : Nat) : Nat := (am_sT[j]?).getD 0
def tmT (j : Nat) : Term := .static RX7 (am_sn j) "[I"
def kS (j : Nat) : Nat := (([112, 114, 116, 118, 120, 122, 124, 126, 128, 130, 152, 158, 160, 172, 177, 179, 185, 187, 189, 191] : List Nat)[j]?).getD 0
def oS' (j : Nat) : String := if j < 10 then RX3 else RX8
def tmS (j : Nat) : Term := .string (oS' j) (kS j)
theorem sgT0 : (flN.drop 5).take 25 = arSeg (tmT 0) (sN 0) (sF 0) := by decide +kernel
theorem sgT1 : (flN.drop 48).take 9 = arSeg (tmT 1) (sN 1) (sF 1) := by decide +kernel
theorem sgT2 : (flN.drop 38).take 9 = arSeg (tmT 2) (sN 2) (sF 2) := by decide +kernel
theorem sgT3 : (flN.drop 58).take 9 = arSeg (tmT 3) (sN 3) (sF 3) := by decide +kernel
theorem sgT4 : (flN.drop 68).take 9 = arSeg (tmT 4) (sN 4) (sF 4) := by decide +kernel
theorem sgT5 : (flN.drop 78).take 19 = arSeg (tmT 5) (sN 5) (sF 5) := by decide +kernel
theorem sgT6 : (flN.drop 98).take 18 = arSeg (tmT 6) (sN 6) (sF 6) := by decide +kernel
theorem sgS0 : (flN.drop 239).take 8 = stSeg (tmS 0) (wd 0) := by decide +kernel
theorem srS0 : lw_tbl[688]? = some (Cond.stringRef (oS' 0) (kS 0) "nose") := by decide +kernel
theorem sgS1 : (flN.drop 247).take 8 = stSeg (tmS 1) (wd 1) := by decide +kernel
theorem srS1 : lw_tbl[689]? = some (Cond.stringRef (oS' 1) (kS 1) "side") := by decide +kernel
theorem sgS2 : (flN.drop 255).take 10 = stSeg (tmS 2) (wd 2) := by decide +kernel
theorem srS2 : lw_tbl[690]? = some (Cond.stringRef (oS' 2) (kS 2) "corner") := by decide +kernel
theorem sgS3 : (flN.drop 265).take 8 = stSeg (tmS 3) (wd 3) := by decide +kernel
theorem srS3 : lw_tbl[793]? = some (Cond.stringRef (oS' 3) (kS 3) "lift") := by decide +kernel
theorem sgS4 : (flN.drop 273).take 8 = stSeg (tmS 4) (wd 4) := by decide +kernel
theorem srS4 : lw_tbl[794]? = some (Cond.stringRef (oS' 4) (kS 4) "drag") := by decide +kernel
theorem sgS5 : (flN.drop 281).take 8 = stSeg (tmS 5) (wd 5) := by decide +kernel
theorem srS5 : lw_tbl[795]? = some (Cond.stringRef (oS' 5) (kS 5) "pull") := by decide +kernel
theorem sgS6 : (flN.drop 289).take 8 = stSeg (tmS 6) (wd 6) := by decide +kernel
theorem srS6 : lw_tbl[796]? = some (Cond.stringRef (oS' 6) (kS 6) "thin") := by decide +kernel
theorem sgS7 : (flN.drop 297).take 8 = stSeg (tmS 7) (wd 7) := by decide +kernel
theorem srS7 : lw_tbl[797]? = some (Cond.stringRef (oS' 7) (kS 7) "turn") := by decide +kernel
theorem sgS8 : (flN.drop 305).take 8 = stSeg (tmS 8) (wd 8) := by decide +kernel
theorem srS8 : lw_tbl[798]? = some (Cond.stringRef (oS' 8) (kS 8) "slow") := by decide +kernel
theorem sgS9 : (flN.drop 313).take 8 = stSeg (tmS 9) (wd 9) := by decide +kernel
theorem srS9 : lw_tbl[799]? = some (Cond.stringRef (oS' 9) (kS 9) "roof") := by decide +kernel
theorem sgS10 : (flN.drop 566).take 8 = stSeg (tmS 10) (wd 0) := by decide +kernel
theorem srS10 : lw_tbl[1512]? = some (Cond.stringRef (oS' 10) (kS 10) "nose") := by decide +kernel
theorem sgS11 : (flN.drop 575).take 8 = stSeg (tmS 11) (wd 1) := by decide +kernel
theorem srS11 : lw_tbl[1519]? = some (Cond.stringRef (oS' 11) (kS 11) "side") := by decide +kernel
theorem sgS12 : (flN.drop 584).take 10 = stSeg (tmS 12) (wd 2) := by decide +kernel
theorem srS12 : lw_tbl[1520]? = some (Cond.stringRef (oS' 12) (kS 12) "corner") := by decide +kernel
theorem sgS13 : (flN.drop 595).take 8 = stSeg (tmS 13) (wd 3) := by decide +kernel
theorem srS13 : lw_tbl[1541]? = some (Cond.stringRef (oS' 13) (kS 13) "lift") := by decide +kernel
theorem sgS14 : (flN.drop 604).take 8 = stSeg (tmS 14) (wd 4) := by decide +kernel
theorem srS14 : lw_tbl[1546]? = some (Cond.stringRef (oS' 14) (kS 14) "drag") := by decide +kernel
theorem sgS15 : (flN.drop 613).take 8 = stSeg (tmS 15) (wd 5) := by decide +kernel
theorem srS15 : lw_tbl[1547]? = some (Cond.stringRef (oS' 15) (kS 15) "pull") := by decide +kernel
theorem sgS16 : (flN.drop 622).take 8 = stSeg (tmS 16) (wd 6) := by decide +kernel
theorem srS16 : lw_tbl[1552]? = some (Cond.stringRef (oS' 16) (kS 16) "thin") := by decide +kernel
theorem sgS17 : (flN.drop 631).take 8 = stSeg (tmS 17) (wd 7) := by decide +kernel
theorem srS17 : lw_tbl[1553]? = some (Cond.stringRef (oS' 17) (kS 17) "turn") := by decide +kernel
theorem sgS18 : (flN.drop 640).take 8 = stSeg (tmS 18) (wd 8) := by decide +kernel
theorem srS18 : lw_tbl[1554]? = some (Cond.stringRef (oS' 18) (kS 18) "slow") := by decide +kernel
theorem sgS19 : (flN.drop 649).take 8 = stSeg (tmS 19) (wd 9) := by decide +kernel
theorem srS19 : lw_tbl[1555]? = some (Cond.stringRef (oS' 19) (kS 19) "roof") := by decide +kernel
theorem sgX255 : flN[375]? = some (Cond.exactly (.string RX7 255) "java/lang/String") := by decide +kernel
theorem srX255 : lw_tbl[1075]? = some (Cond.stringRef RX7 255 "a number of the THROW") := by decide +kernel
theorem sgX312 : flN[400]? = some (Cond.exactly (.string RX7 312) "java/lang/String") := by decide +kernel
theorem srX312 : lw_tbl[1173]? = some (Cond.stringRef RX7 312 "no such ENTRY") := by decide +kernel
theorem sgX361 : flN[456]? = some (Cond.exactly (.string RX7 361) "java/lang/String") := by decide +kernel
theorem srX361 : lw_tbl[1242]? = some (Cond.stringRef RX7 361 "no such place") := by decide +kernel
theorem sgX368 : flN[473]? = some (Cond.exactly (.string RX7 368) "java/lang/String") := by decide +kernel
theorem srX368 : lw_tbl[1264]? = some (Cond.stringRef RX7 368 "the TRAY ends within a THROW") := by decide +kernel
theorem sgX373 : flN[505]? = some (Cond.exactly (.string RX7 373) "java/lang/String") := by decide +kernel
theorem srX373 : lw_tbl[1269]? = some (Cond.stringRef RX7 373 "a number of a THROW") := by decide +kernel
theorem sgX384 : flN[545]? = some (Cond.exactly (.string RX7 384) "java/lang/String") := by decide +kernel
theorem srX384 : lw_tbl[1292]? = some (Cond.stringRef RX7 384 "no IMAGE was made") := by decide +kernel
theorem sgX390 : flN[206]? = some (Cond.exactly (.string RX7 390) "java/lang/String") := by decide +kernel
theorem srX390 : lw_tbl[613]? = some (Cond.stringRef RX7 390 "a number is out of its bounds") := by decide +kernel
theorem sgX392 : flN[321]? = some (Cond.exactly (.string RX7 392) "java/lang/String") := by decide +kernel
theorem srX392 : lw_tbl[833]? = some (Cond.stringRef RX7 392 "no such WAY") := by decide +kernel
theorem sgX394 : flN[359]? = some (Cond.exactly (.string RX7 394) "java/lang/String") := by decide +kernel
theorem srX394 : lw_tbl[1066]? = some (Cond.stringRef RX7 394 "no such HAND") := by decide +kernel
theorem sgX396 : flN[336]? = some (Cond.exactly (.string RX7 396) "java/lang/String") := by decide +kernel
theorem srX396 : lw_tbl[868]? = some (Cond.stringRef RX7 396 "the WAY has no MAKE") := by decide +kernel
theorem sgX398 : flN[417]? = some (Cond.exactly (.string RX7 398) "java/lang/String") := by decide +kernel
theorem srX398 : lw_tbl[1216]? = some (Cond.stringRef RX7 398 "no such TRAY") := by decide +kernel
theorem sgX403 : flN[433]? = some (Cond.exactly (.string RX7 403) "java/lang/String") := by decide +kernel
theorem srX403 : lw_tbl[1232]? = some (Cond.stringRef RX7 403 "the TRAY is MISSING") := by decide +kernel
theorem sgX405 : flN[528]? = some (Cond.exactly (.string RX7 405) "java/lang/String") := by decide +kernel
theorem srX405 : lw_tbl[1280]? = some (Cond.stringRef RX7 405 "no such IMAGE") := by decide +kernel
theorem sgN01 : flN[149]? = some (Cond.not (Cond.castable (am_ex 0) (am_ex 1))) := by decide +kernel
theorem sgN02 : flN[161]? = some (Cond.not (Cond.castable (am_ex 0) (am_ex 2))) := by decide +kernel
theorem sgN03 : flN[137]? = some (Cond.not (Cond.castable (am_ex 0) (am_ex 3))) := by decide +kernel
theorem sgN10 : flN[126]? = some (Cond.not (Cond.castable (am_ex 1) (am_ex 0))) := by decide +kernel
theorem sgN12 : flN[163]? = some (Cond.not (Cond.castable (am_ex 1) (am_ex 2))) := by decide +kernel
theorem sgN13 : flN[138]? = some (Cond.not (Cond.castable (am_ex 1) (am_ex 3))) := by decide +kernel
theorem sgN20 : flN[127]? = some (Cond.not (Cond.castable (am_ex 2) (am_ex 0))) := by decide +kernel
theorem sgN21 : flN[151]? = some (Cond.not (Cond.castable (am_ex 2) (am_ex 1))) := by decide +kernel
theorem sgN23 : flN[139]? = some (Cond.not (Cond.castable (am_ex 2) (am_ex 3))) := by decide +kernel
theorem sgN30 : flN[125]? = some (Cond.not (Cond.castable (am_ex 3) (am_ex 0))) := by decide +kernel
theorem sgN31 : flN[150]? = some (Cond.not (Cond.castable (am_ex 3) (am_ex 1))) := by decide +kernel
theorem sgN32 : flN[162]? = some (Cond.not (Cond.castable (am_ex 3) (am_ex 2))) := by decide +kernel
theorem sgU : flN[30]? = some (Cond.isRef (.static Bundle.tN "UNASSIGNED_STACK" Bundle.steD)) := by decide +kernel
theorem sgV : flN[31]? = some (Cond.isRef (.static Bundle.tN "SUPPRESSED_SENTINEL" Bundle.listD)) := by decide +kernel
theorem sgC : flN[32]? = some (Cond.eq (.static "java/lang/String" "COMPACT_STRINGS" "Z") (.int 1)) := by decide +kernel
theorem sgP : flN[33]? = some (Cond.isRef (.static RJ3 "SIOOBE_FORMATTER" "Ljava/util/function/BiFunction;")) := by decide +kernel
theorem lsT0 : lw_tbl[156]? = some (Cond.laysStatic RX7 (am_sn 0) "[I") := by decide +kernel
theorem lsT1 : lw_tbl[803]? = some (Cond.laysStatic RX7 (am_sn 1) "[I") := by decide +kernel
theorem lsT2 : lw_tbl[801]? = some (Cond.laysStatic RX7 (am_sn 2) "[I") := by decide +kernel
theorem lsT3 : lw_tbl[805]? = some (Cond.laysStatic RX7 (am_sn 3) "[I") := by decide +kernel
theorem lsT4 : lw_tbl[807]? = some (Cond.laysStatic RX7 (am_sn 4) "[I") := by decide +kernel
theorem lsT5 : lw_tbl[915]? = some (Cond.laysStatic RX7 (am_sn 5) "[I") := by decide +kernel
theorem lsT6 : lw_tbl[935]? = some (Cond.laysStatic RX7 (am_sn 6) "[I") := by decide +kernel
theorem lsU : lw_tbl[598]? = some (Cond.laysStatic Bundle.tN "UNASSIGNED_STACK" Bundle.steD) := by decide +kernel
theorem lsV : lw_tbl[600]? = some (Cond.laysStatic Bundle.tN "SUPPRESSED_SENTINEL" Bundle.listD) := by decide +kernel
theorem lsC : lw_tbl[704]? = some (Cond.laysStatic "java/lang/String" "COMPACT_STRINGS" "Z") := by decide +kernel
theorem lsP : lw_tbl[720]? = some (Cond.laysStatic RJ3 "SIOOBE_FORMATTER" "Ljava/util/function/BiFunction;") := by decide +kernel
theorem in7 : lw_tbl[93]? = some (Cond.initialized RX7) := by decide +kernel
theorem inT : lw_tbl[104]? = some (Cond.initialized Bundle.tN) := by decide +kernel
theorem inS : lw_tbl[108]? = some (Cond.initialized "java/lang/String") := by decide +kernel
theorem inP : lw_tbl[110]? = some (Cond.initialized RJ3) := by decide +kernel
theorem ac_int : lw_tbl[154]? = some (Cond.arrayClass .int) := by decide +kernel
theorem ac_long : lw_tbl[396]? = some (Cond.arrayClass .long) := by decide +kernel
theorem ac_boolean : lw_tbl[1466]? = some (Cond.arrayClass .boolean) := by decide +kernel
theorem ao4 : lw_tbl[130]? = some (Cond.arrayOver (.object RX4)) := by decide +kernel
theorem ao5 : lw_tbl[207]? = some (Cond.arrayOver (.object RX5)) := by decide +kernel
theorem ao6 : lw_tbl[246]? = some (Cond.arrayOver (.object RX6)) := by decide +kernel
theorem ins0 : lw_tbl[357]? = some (Cond.instantiable RX0 4) := by decide +kernel
theorem ins1 : lw_tbl[291]? = some (Cond.instantiable RX1 16) := by decide +kernel
theorem ins2 : lw_tbl[248]? = some (Cond.instantiable RX2 9) := by decide +kernel
theorem ins3 : lw_tbl[209]? = some (Cond.instantiable RX3 9) := by decide +kernel
theorem ins4 : lw_tbl[131]? = some (Cond.instantiable RX4 3) := by decide +kernel
theorem ins5 : lw_tbl[124]? = some (Cond.instantiable RX5 11) := by decide +kernel
theorem ins6 : lw_tbl[379]? = some (Cond.instantiable RX6 3) := by decide +kernel
theorem ins7 : lw_tbl[116]? = some (Cond.instantiable RX7 11) := by decide +kernel
theorem ins8 : lw_tbl[1294]? = some (Cond.instantiable RX8 54) := by decide +kernel
theorem zc_in {l : List Cond} {q : List Nat} (h : am_zc (fun w i => decide (lw_tbl[i]? = some w)) l q = true) : ∀ w ∈ l, w ∈ lw_tbl := by
  induction l generalizing q with
  | nil => intro w hw; cases hw
  | cons a l ih =>
    cases q with
    | nil => cases h
    | cons b q =>
      rw [am_zc, Bool.and_eq_true] at h
      intro w hw
      rcases List.mem_cons.mp hw with e | e
      · rw [e]; exact List.mem_of_getElem? (of_decide_eq_true h.1)
      · exact ih h.2 w e
theorem us0 : am_zc (fun w i => decide (lw_tbl[i]? = some w)) (u_ws RX0 TX0 4) [370, 372, 374, 376] = true := by decide +kernel
theorem us1 : am_zc (fun w i => decide (lw_tbl[i]? = some w)) (u_ws RX1 TX1 16) [321, 323, 325, 327, 329, 331, 333, 335, 337, 339, 341, 343, 345, 347, 349, 351] = true := by decide +kernel
theorem us2 : am_zc (fun w i => decide (lw_tbl[i]? = some w)) (u_ws RX2 TX2 9) [271, 273, 275, 277, 279, 281, 283, 285, 287] = true := by decide +kernel
theorem us3 : am_zc (fun w i => decide (lw_tbl[i]? = some w)) (u_ws RX3 TX3 9) [226, 228, 230, 232, 234, 236, 238, 240, 242] = true := by decide +kernel
theorem us4 : am_zc (fun w i => decide (lw_tbl[i]? = some w)) (u_ws RX4 TX4 3) [147, 149, 151] = true := by decide +kernel
theorem us5 : am_zc (fun w i => decide (lw_tbl[i]? = some w)) (u_ws RX5 TX5 11) [184, 186, 188, 190, 192, 194, 196, 198, 200, 202, 204] = true := by decide +kernel
theorem us6 : am_zc (fun w i => decide (lw_tbl[i]? = some w)) (u_ws RX6 TX6 3) [389, 391, 393] = true := by decide +kernel
theorem us7 : am_zc (fun w i => decide (lw_tbl[i]? = some w)) (u_ws RX7 TX7 11) [408, 410, 412, 414, 416, 418, 420, 422, 424, 426, 428] = true := by decide +kernel
theorem us8 : am_zc (fun w i => decide (lw_tbl[i]? = some w)) (u_ws RX8 TX8 54) [1357, 1359, 1361, 1363, 1365, 1367, 1369, 1371, 1373, 1375, 1377, 1379, 1381, 1383, 1385, 1387, 1389, 1391, 1393, 1395, 1397, 1399, 1401, 1403, 1405, 1407, 1409, 1411, 1413, 1415, 1417, 1419, 1421, 1423, 1425, 1427, 1429, 1431, 1433, 1435, 1437, 1439, 1441, 1443, 1445, 1447, 1449, 1451, 1453, 1455, 1457, 1459, 1461, 1463] = true := by decide +kernel
