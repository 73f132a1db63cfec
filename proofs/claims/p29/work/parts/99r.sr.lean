theorem lw_ry {μ : nMem} {ε : nEnv} {Q : nOut → nMem → nEnv → Prop} {N : Int} {A : AS} {nb vb : Int} {t : Nat} {X : nMem} {turn kd y d d2 nm nm2 f s b a fr : Int} {o : Int} (hS : ST N A nb vb (t + 30 + 1) X μ ε 0) (hnb : nb + 1 ≤ 490) (hvb : vb + 2 ≤ 4000) (hvb0 : 0 ≤ vb) (hn2 : 2 ≤ nb) (ry : 0 ≤ y ∧ y ≤ 2147483647) (ht : 0 ≤ turn ∧ turn < 120) (hF : LF A X d d2 nm nm2 f s b a fr) (H : ∀ A1 X1 m e w, ST N A1 (nb + 1) (vb + 2) t X1 m e w → wpL 2040 [(0, vR (-1)), (1, vR 1), (2, vR 21), (3, vR 22), (4, vR 23), (5, vR 24), (6, vR 25), (7, vI 1), (8, vI turn), (11, vI y), (22, vI w)] [] m e Q) (hn13 : X 21 0 < 14) (ho : o = lsP (pF (X 22) d2 nm2) (X 21 0).toNat) (hvb2 : vb ≤ 300) (hc : (b = 1 ∧ 0 ≤ a ∧ (o < 0 ∨ (X 22 (4 * a + 2) ≠ X 22 (4 * o + 2) ∧ X 22 (4 * a + 3) + X 22 (4 * o + 3) = 0)) ∧ (X 22 (4 * a + 3) = 0 ∨ ¬ rB (X 22) (X 21 0) (X 22 (4 * a + 2)) d2))) : wpL 1197 [(0, vR (-1)), (1, vR 1), (2, vR 21), (3, vR 22), (4, vR 23), (5, vR 24), (6, vR 25), (7, vI 1), (8, vI turn), (10, vI kd), (11, vI y), (12, vI d), (13, vI d2), (14, vI nm), (15, vI nm2), (16, vI f), (17, vI s), (18, vI b), (19, vI a), (20, vI fr), (21, vI 0), (22, vI 0), (23, vI o), (24, vI 1)] [] μ ε Q := by
  obtain ⟨⟨hW, hG, hX, hi⟩, ⟨hD, hJ, hV, hZ⟩, fl, SS, hP, hTS⟩ := ST_0 hS
  obtain ⟨f1, f2, f3, f4, f5, f6, f7, f8, f9⟩ := id hF
  obtain ⟨⟨⟨hn0, hn15⟩, ⟨hm0, hm8⟩, hr2, hr3, hr4⟩, hn14, hm7⟩ := id hX
  have hs9 := GA_slot hG f
  have ha9 := GA_find hG d nm
  rw [← f7] at hs9
  rw [← f8] at ha9
  have hfr9 := (frN_le A).2
  rw [← f9] at hfr9
  clear f7 f8 f9
  have hge := GA_e hG (i := a) (by omega) (by omega)
  have hgo := GA_find hG d2 nm2
  rw [← ho] at hgo
  refine wq_aload_n (pc := 1197) dL_law_1197 rfl rfl ?_
  refine wq_iload (pc := 1198) dL_law_1198 rfl ?_
  refine wq_iload (pc := 1200) dL_law_1200 rfl ?_
  refine wq_iload (pc := 1202) dL_law_1202 rfl ?_
  refine wq_iload (pc := 1204) dL_law_1204 rfl ?_
  refine cW_5 (pc := 1206) dL_law_1206 (cw_L_139 _ rfl) ⟨by decide, by decide⟩ (Nat.le_of_ble_eq_true rfl) (qc_rename hS hnb hvb hF ho (fun r mm ee hE hq hr => ?_) (fun mm ee hE hq hr => ?_) (fun A1 Fm mm ee W hq hd hmid => ?_) (fun A1 r mm ee W hq hr hJA hz => ?_))
  · skip
    exact absurd hc hq
  · skip
    show wpL 1209 _ _ _ _ _
    have WE := hE.1
    refine wq_istore (pc := 1209) (L' := [(21, _), (0, _), (1, _), (2, _), (3, _), (4, _), (5, _), (6, _), (7, _), (8, _), (10, _), (11, _), (12, _), (13, _), (14, _), (15, _), (16, _), (17, _), (18, _), (19, _), (20, _), (22, _), (23, _), (24, _)]) dL_law_1209 rfl (by decide) ?_
    refine wq_iload (pc := 1211) dL_law_1211 rfl ?_
    refine wq_bipush (pc := 1213) dL_law_1213 (by decide) (by decide) ?_
    refine wq_icmp_ne (pc := 1215) (tgt := 1222) dL_law_1215 (by decide) (by first | (unfold inR; omega) | assumption | exact hr2 _ | exact hr3 _ | exact hr4 _) (by first | (unfold inR; omega) | assumption | exact hr2 _ | exact hr3 _ | exact hr4 _) (fun _ => ?_) (fun c9 => by exfalso; omega)
    refine wq_iconst (pc := 1222) dL_law_1222 ?_
    refine wq_istore (pc := 1223) (L' := [(22, _), (21, _), (0, _), (1, _), (2, _), (3, _), (4, _), (5, _), (6, _), (7, _), (8, _), (10, _), (11, _), (12, _), (13, _), (14, _), (15, _), (16, _), (17, _), (18, _), (19, _), (20, _), (23, _), (24, _)]) dL_law_1223 rfl (by decide) ?_
    refine wq_iload (pc := 1225) dL_law_1225 rfl ?_
    refine wq_if_ne (pc := 1227) (tgt := 1265) dL_law_1227 (by decide) (by first | (unfold inR; omega) | assumption | exact hr2 _ | exact hr3 _ | exact hr4 _) (fun _ => ?_) (fun c => absurd c (by decide))
    refine wq_iload (pc := 1265) dL_law_1265 rfl ?_
    refine wq_aload_n (pc := 1267) dL_law_1267 rfl rfl ?_
    refine wq_iconst (pc := 1268) dL_law_1268 ?_
    refine wq_iload (pc := 1269) dL_law_1269 rfl ?_
    refine wq_imul (pc := 1271) dL_law_1271 ?_
    refine wq_iconst (pc := 1272) dL_law_1272 ?_
    refine wq_iadd (pc := 1273) dL_law_1273 ?_
    refine wq_ialdX (pc := 1274) dL_law_1274 (by with_reducible assumption) rfl (by omega) (by omega) ?_
    refine wq_icmp_eq (pc := 1275) (tgt := 1296) dL_law_1275 (by decide) (by first | assumption | (unfold inR; omega)) (hr2 _) (fun c9 => by exfalso; omega) (fun c7 => ?_)
    refine wq_iload (pc := 1278) dL_law_1278 rfl ?_
    refine wq_if_ne (pc := 1280) (tgt := 1296) dL_law_1280 (by decide) (by first | (unfold inR; omega) | assumption | exact hr2 _ | exact hr3 _ | exact hr4 _) (fun c => absurd c (by decide)) (fun _ => ?_)
    refine wq_iload (pc := 1283) dL_law_1283 rfl ?_
    refine wq_bipush (pc := 1285) dL_law_1285 (by decide) (by decide) ?_
    refine wq_icmp_ne (pc := 1287) (tgt := 1300) dL_law_1287 (by decide) (by first | (unfold inR; omega) | assumption | exact hr2 _ | exact hr3 _ | exact hr4 _) (by first | (unfold inR; omega) | assumption | exact hr2 _ | exact hr3 _ | exact hr4 _) (fun c9 => by exfalso; omega) (fun _ => ?_)
    refine wq_iload (pc := 1290) dL_law_1290 rfl ?_
    refine wq_iconst (pc := 1292) dL_law_1292 ?_
    refine wq_icmp_ge (pc := 1293) (tgt := 1300) dL_law_1293 (by decide) (by first | (unfold inR; omega) | assumption | exact hr2 _ | exact hr3 _ | exact hr4 _) (by first | (unfold inR; omega) | assumption | exact hr2 _ | exact hr3 _ | exact hr4 _) (fun c9 => by exfalso; omega) (fun c10 => ?_)
    refine wq_iconst (pc := 1296) dL_law_1296 ?_
    refine wq_goto (pc := 1297) (tgt := 1301) dL_law_1297 (by decide) ?_
    refine wq_istore (pc := 1301) (L' := [(7, _), (22, _), (21, _), (0, _), (1, _), (2, _), (3, _), (4, _), (5, _), (6, _), (8, _), (10, _), (11, _), (12, _), (13, _), (14, _), (15, _), (16, _), (17, _), (18, _), (19, _), (20, _), (23, _), (24, _)]) dL_law_1301 rfl (by decide) ?_
    refine wq_iconst (pc := 1303) dL_law_1303 ?_
    refine wq_istore (pc := 1304) (L' := [(25, _), (7, _), (22, _), (21, _), (0, _), (1, _), (2, _), (3, _), (4, _), (5, _), (6, _), (8, _), (10, _), (11, _), (12, _), (13, _), (14, _), (15, _), (16, _), (17, _), (18, _), (19, _), (20, _), (23, _), (24, _)]) dL_law_1304 rfl (by decide) ?_
    refine wq_iload (pc := 1306) dL_law_1306 rfl ?_
    refine wq_if_eq (pc := 1308) (tgt := 1366) dL_law_1308 (by decide) (by first | (unfold inR; omega) | assumption | exact hr2 _ | exact hr3 _ | exact hr4 _) (fun _ => ?_) (fun c => absurd c (by decide))
    refine wq_iload (pc := 1366) dL_law_1366 rfl ?_
    refine wq_if_eq (pc := 1368) (tgt := 1462) dL_law_1368 (by decide) (by first | (unfold inR; omega) | assumption | exact hr2 _ | exact hr3 _ | exact hr4 _) (fun c => absurd c (by decide)) (fun _ => ?_)
    refine wq_iload (pc := 1371) dL_law_1371 rfl ?_
    refine wq_if_eq (pc := 1373) (tgt := 1462) dL_law_1373 (by decide) (by first | (unfold inR; omega) | assumption | exact hr2 _ | exact hr3 _ | exact hr4 _) (fun c => absurd c (by decide)) (fun _ => ?_)
    refine wq_iload (pc := 1376) dL_law_1376 rfl ?_
    refine wq_if_gt (pc := 1378) (tgt := 1386) dL_law_1378 (by decide) (by first | (unfold inR; omega) | assumption | exact hr2 _ | exact hr3 _ | exact hr4 _) (fun c => absurd c (by decide)) (fun _ => ?_)
    refine wq_iload (pc := 1381) dL_law_1381 rfl ?_
    refine wq_if_eq (pc := 1383) (tgt := 1462) dL_law_1383 (by decide) (by first | (unfold inR; omega) | assumption | exact hr2 _ | exact hr3 _ | exact hr4 _) (fun _ => ?_) (fun c => absurd c (by decide))
    refine wq_goto (pc := 1462) (tgt := 2040) dL_law_1462 (by decide) ?_
    refine wq_sub1 (L' := [(0, _), (1, _), (2, _), (3, _), (4, _), (5, _), (6, _), (7, _), (8, _), (11, _), (22, _)]) ⟨rfl, rfl, rfl, rfl, rfl, rfl, rfl, rfl, rfl, rfl, rfl, trivial⟩ ?_
    exact H _ _ _ _ _ (ST_t hE (by omega) (by omega) (by omega) (by omega))
  · skip
    show wpL 1209 _ _ _ _ _
    obtain ⟨⟨hd1, hdE⟩, hd3, hd4, hd5, hd6⟩ := hd
    refine wq_istore (pc := 1209) (L' := [(21, _), (0, _), (1, _), (2, _), (3, _), (4, _), (5, _), (6, _), (7, _), (8, _), (10, _), (11, _), (12, _), (13, _), (14, _), (15, _), (16, _), (17, _), (18, _), (19, _), (20, _), (22, _), (23, _), (24, _)]) dL_law_1209 rfl (by decide) ?_
    refine wq_iload (pc := 1211) dL_law_1211 rfl ?_
    refine wq_bipush (pc := 1213) dL_law_1213 (by decide) (by decide) ?_
    refine wq_icmp_ne (pc := 1215) (tgt := 1222) dL_law_1215 (by decide) (by first | (unfold inR; omega) | assumption | exact hr2 _ | exact hr3 _ | exact hr4 _) (by first | (unfold inR; omega) | assumption | exact hr2 _ | exact hr3 _ | exact hr4 _) (fun c9 => by exfalso; omega) (fun _ => ?_)
    refine wq_iconst (pc := 1218) dL_law_1218 ?_
    refine wq_goto (pc := 1219) (tgt := 1223) dL_law_1219 (by decide) ?_
    refine wq_istore (pc := 1223) (L' := [(22, _), (21, _), (0, _), (1, _), (2, _), (3, _), (4, _), (5, _), (6, _), (7, _), (8, _), (10, _), (11, _), (12, _), (13, _), (14, _), (15, _), (16, _), (17, _), (18, _), (19, _), (20, _), (23, _), (24, _)]) dL_law_1223 rfl (by decide) ?_
    refine wq_iload (pc := 1225) dL_law_1225 rfl ?_
    refine wq_if_ne (pc := 1227) (tgt := 1265) dL_law_1227 (by decide) (by first | (unfold inR; omega) | assumption | exact hr2 _ | exact hr3 _ | exact hr4 _) (fun _ => ?_) (fun c => absurd c (by decide))
    refine wq_iload (pc := 1265) dL_law_1265 rfl ?_
    refine wq_aload_n (pc := 1267) dL_law_1267 rfl rfl ?_
    refine wq_iconst (pc := 1268) dL_law_1268 ?_
    refine wq_iload (pc := 1269) dL_law_1269 rfl ?_
    refine wq_imul (pc := 1271) dL_law_1271 ?_
    refine wq_iconst (pc := 1272) dL_law_1272 ?_
    refine wq_iadd (pc := 1273) dL_law_1273 ?_
    refine wq_ialdX (pc := 1274) dL_law_1274 (by with_reducible assumption) rfl (by omega) (by omega) ?_
    refine wq_icmp_eq (pc := 1275) (tgt := 1296) dL_law_1275 (by decide) (by first | assumption | (unfold inR; omega)) (hr2 _) (fun c9 => by exfalso; omega) (fun c18 => ?_)
    refine wq_iload (pc := 1278) dL_law_1278 rfl ?_
    refine wq_if_ne (pc := 1280) (tgt := 1296) dL_law_1280 (by decide) (by first | (unfold inR; omega) | assumption | exact hr2 _ | exact hr3 _ | exact hr4 _) (fun _ => ?_) (fun c => absurd c (by decide))
    refine wq_iconst (pc := 1296) dL_law_1296 ?_
    refine wq_goto (pc := 1297) (tgt := 1301) dL_law_1297 (by decide) ?_
    refine wq_istore (pc := 1301) (L' := [(7, _), (22, _), (21, _), (0, _), (1, _), (2, _), (3, _), (4, _), (5, _), (6, _), (8, _), (10, _), (11, _), (12, _), (13, _), (14, _), (15, _), (16, _), (17, _), (18, _), (19, _), (20, _), (23, _), (24, _)]) dL_law_1301 rfl (by decide) ?_
    refine wq_iconst (pc := 1303) dL_law_1303 ?_
    refine wq_istore (pc := 1304) (L' := [(25, _), (7, _), (22, _), (21, _), (0, _), (1, _), (2, _), (3, _), (4, _), (5, _), (6, _), (8, _), (10, _), (11, _), (12, _), (13, _), (14, _), (15, _), (16, _), (17, _), (18, _), (19, _), (20, _), (23, _), (24, _)]) dL_law_1304 rfl (by decide) ?_
    refine wq_iload (pc := 1306) dL_law_1306 rfl ?_
    refine wq_if_eq (pc := 1308) (tgt := 1366) dL_law_1308 (by decide) (by first | (unfold inR; omega) | assumption | exact hr2 _ | exact hr3 _ | exact hr4 _) (fun c => absurd c (by decide)) (fun _ => ?_)
    refine wq_iload (pc := 1311) dL_law_1311 rfl ?_
    refine wq_if_eq (pc := 1313) (tgt := 1329) dL_law_1313 (by decide) (by first | (unfold inR; omega) | assumption | exact hr2 _ | exact hr3 _ | exact hr4 _) (fun c => absurd c (by decide)) (fun _ => ?_)
    refine wq_aload_n (pc := 1316) dL_law_1316 rfl rfl ?_
    refine wq_iload (pc := 1317) dL_law_1317 rfl ?_
    refine lS_2 (pc := 1319) dL_law_1319 (cw_L_142 _ rfl) ⟨by decide, by decide⟩ (Nat.le_of_ble_eq_true rfl) (sp_L_isMounted (t := t + 10) (Wd_t W (by omega)) hd1.1 hd1.2 hd3 hd4 (by omega) (by omega) (by omega) (by omega) ry (fun A2 mm ee W2 hD2 hE2 hV2 => ?_))
    show wpL 1322 _ _ _ _ _
    refine wq_if_eq (pc := 1322) (tgt := 1329) dL_law_1322 (by decide) (by first | (unfold inR; omega) | assumption | exact hr2 _ | exact hr3 _ | exact hr4 _) (fun c => absurd c (by decide)) (fun _ => ?_)
    refine wq_iconst (pc := 1325) dL_law_1325 ?_
    refine wq_goto (pc := 1326) (tgt := 1330) dL_law_1326 (by decide) ?_
    refine wq_istore (pc := 1330) (L' := [(7, _), (25, _), (22, _), (21, _), (0, _), (1, _), (2, _), (3, _), (4, _), (5, _), (6, _), (8, _), (10, _), (11, _), (12, _), (13, _), (14, _), (15, _), (16, _), (17, _), (18, _), (19, _), (20, _), (23, _), (24, _)]) dL_law_1330 rfl (by decide) ?_
    refine wq_iconst (pc := 1332) dL_law_1332 ?_
    refine wq_istore (pc := 1333) (L' := [(22, _), (7, _), (25, _), (21, _), (0, _), (1, _), (2, _), (3, _), (4, _), (5, _), (6, _), (8, _), (10, _), (11, _), (12, _), (13, _), (14, _), (15, _), (16, _), (17, _), (18, _), (19, _), (20, _), (23, _), (24, _)]) dL_law_1333 rfl (by decide) ?_
    refine wq_iload (pc := 1335) dL_law_1335 rfl ?_
    refine wq_if_eq (pc := 1337) (tgt := 1363) dL_law_1337 (by decide) (by first | (unfold inR; omega) | assumption | exact hr2 _ | exact hr3 _ | exact hr4 _) (fun c => absurd c (by decide)) (fun _ => ?_)
    refine wq_aload_n (pc := 1340) dL_law_1340 rfl rfl ?_
    refine wq_iload (pc := 1341) dL_law_1341 rfl ?_
    refine wq_iload (pc := 1343) dL_law_1343 rfl ?_
    refine lVK_2 (pc := 1345) dL_law_1345 (Wd_s (by with_reducible assumption)) (cw_L_43 _ rfl) (by decide) rfl ⟨by decide, by decide⟩ (Nat.le_of_ble_eq_true rfl) (qs_lookUp2 (t := t + 9) (Wd_t W2 (by omega)) (by omega) (by omega) (fun z => by have z : fD _ = 1 := z; omega) ((EQ_D (EQ_trans hdE hE2) d2).mpr hd5) f3.2 (by omega) (fun mm ee W3 => ?_))
    show wpL 1348 _ _ _ _ _
    have hq2 : TG (aF A2) d2 nm2 = TG Fm d2 nm2 := ((EQ_trans hdE hE2).1 d2 hd5 nm2 (by omega)).1
    obtain ⟨u9, hu9⟩ : ∃ u9 : Int, u9 = (if TG (aF A2) d2 nm2 = 0 then -1 else TG (aF A2) d2 nm2) := ⟨_, rfl⟩
    rw [← hu9]
    rw [hq2] at hu9
    have hru : inR u9 := by rw [hu9]; split <;> (unfold inR; omega)
    have hu : (u9 ≠ X 22 (4 * a + 2) ∧ JA Fm X) ∨ (u9 = X 22 (4 * a + 2) ∧ ∀ X1 X2, ((o < 0 ∧ X1 = X) ∨ (0 ≤ o ∧ tkX X X1 o)) → adX X1 X2 d2 nm2 (X 22 (4 * a + 2)) (X 22 (4 * a + 3)) → JA Fm X2) := by
      rcases hmid with ⟨z1, z2⟩ | ⟨z1, z2⟩
      · exact Or.inl ⟨by rw [hu9]; split <;> omega, z1⟩
      · exact Or.inr ⟨by rw [hu9, z1, if_neg (by omega)], z2⟩
    refine wq_aload_n (pc := 1348) dL_law_1348 rfl rfl ?_
    refine wq_iconst (pc := 1349) dL_law_1349 ?_
    refine wq_iload (pc := 1350) dL_law_1350 rfl ?_
    refine wq_imul (pc := 1352) dL_law_1352 ?_
    refine wq_iconst (pc := 1353) dL_law_1353 ?_
    refine wq_iadd (pc := 1354) dL_law_1354 ?_
    refine wq_ialdX (pc := 1355) dL_law_1355 (by with_reducible assumption) rfl (by omega) (by omega) ?_
    refine wq_icmp_ne (pc := 1356) (tgt := 1363) dL_law_1356 (by decide) hru (hr2 _) (fun c26 => ?_) (fun c26 => ?_)
    · skip
      have hE := ST_i W3 (JA_EQ (hu.resolve_right (fun z => by have := z.1; omega)).2 (EQ_trans hdE hE2)) hX hD2 hV2 hi
      refine wq_iconst (pc := 1363) dL_law_1363 ?_
      refine wq_istore (pc := 1364) (L' := [(25, _), (22, _), (7, _), (21, _), (0, _), (1, _), (2, _), (3, _), (4, _), (5, _), (6, _), (8, _), (10, _), (11, _), (12, _), (13, _), (14, _), (15, _), (16, _), (17, _), (18, _), (19, _), (20, _), (23, _), (24, _)]) dL_law_1364 rfl (by decide) ?_
      refine wq_iload (pc := 1366) dL_law_1366 rfl ?_
      refine wq_if_eq (pc := 1368) (tgt := 1462) dL_law_1368 (by decide) (by first | (unfold inR; omega) | assumption | exact hr2 _ | exact hr3 _ | exact hr4 _) (fun c => absurd c (by decide)) (fun _ => ?_)
      refine wq_iload (pc := 1371) dL_law_1371 rfl ?_
      refine wq_if_eq (pc := 1373) (tgt := 1462) dL_law_1373 (by decide) (by first | (unfold inR; omega) | assumption | exact hr2 _ | exact hr3 _ | exact hr4 _) (fun c => absurd c (by decide)) (fun _ => ?_)
      refine wq_iload (pc := 1376) dL_law_1376 rfl ?_
      refine wq_if_gt (pc := 1378) (tgt := 1386) dL_law_1378 (by decide) (by first | (unfold inR; omega) | assumption | exact hr2 _ | exact hr3 _ | exact hr4 _) (fun c => absurd c (by decide)) (fun _ => ?_)
      refine wq_iload (pc := 1381) dL_law_1381 rfl ?_
      refine wq_if_eq (pc := 1383) (tgt := 1462) dL_law_1383 (by decide) (by first | (unfold inR; omega) | assumption | exact hr2 _ | exact hr3 _ | exact hr4 _) (fun _ => ?_) (fun c => absurd c (by decide))
      refine wq_goto (pc := 1462) (tgt := 2040) dL_law_1462 (by decide) ?_
      refine wq_sub1 (L' := [(0, _), (1, _), (2, _), (3, _), (4, _), (5, _), (6, _), (7, _), (8, _), (11, _), (22, _)]) ⟨rfl, rfl, rfl, rfl, rfl, rfl, rfl, rfl, rfl, rfl, rfl, trivial⟩ ?_
      exact H _ _ _ _ _ (ST_t hE (by omega) (by omega) (by omega) (by omega))
    · skip
      have hJm := (hu.resolve_left (fun z => by have := z.1; omega)).2
      refine wq_iconst (pc := 1359) dL_law_1359 ?_
      refine wq_goto (pc := 1360) (tgt := 1364) dL_law_1360 (by decide) ?_
      refine wq_istore (pc := 1364) (L' := [(25, _), (22, _), (7, _), (21, _), (0, _), (1, _), (2, _), (3, _), (4, _), (5, _), (6, _), (8, _), (10, _), (11, _), (12, _), (13, _), (14, _), (15, _), (16, _), (17, _), (18, _), (19, _), (20, _), (23, _), (24, _)]) dL_law_1364 rfl (by decide) ?_
      refine wq_iload (pc := 1366) dL_law_1366 rfl ?_
      refine wq_if_eq (pc := 1368) (tgt := 1462) dL_law_1368 (by decide) (by first | (unfold inR; omega) | assumption | exact hr2 _ | exact hr3 _ | exact hr4 _) (fun c => absurd c (by decide)) (fun _ => ?_)
      refine wq_iload (pc := 1371) dL_law_1371 rfl ?_
      refine wq_if_eq (pc := 1373) (tgt := 1462) dL_law_1373 (by decide) (by first | (unfold inR; omega) | assumption | exact hr2 _ | exact hr3 _ | exact hr4 _) (fun c => absurd c (by decide)) (fun _ => ?_)
      refine wq_iload (pc := 1376) dL_law_1376 rfl ?_
      refine wq_if_gt (pc := 1378) (tgt := 1386) dL_law_1378 (by decide) (by first | (unfold inR; omega) | assumption | exact hr2 _ | exact hr3 _ | exact hr4 _) (fun c => absurd c (by decide)) (fun _ => ?_)
      refine wq_iload (pc := 1381) dL_law_1381 rfl ?_
      refine wq_if_eq (pc := 1383) (tgt := 1462) dL_law_1383 (by decide) (by first | (unfold inR; omega) | assumption | exact hr2 _ | exact hr3 _ | exact hr4 _) (fun c => absurd c (by decide)) (fun _ => ?_)
      refine wq_aload_n (pc := 1386) dL_law_1386 rfl rfl ?_
      refine wq_iconst (pc := 1387) dL_law_1387 ?_
      refine wq_iload (pc := 1388) dL_law_1388 rfl ?_
      refine wq_imul (pc := 1390) dL_law_1390 ?_
      refine wq_iconst (pc := 1391) dL_law_1391 ?_
      refine wq_iadd (pc := 1392) dL_law_1392 ?_
      refine wq_ialdX (pc := 1393) dL_law_1393 (by with_reducible assumption) rfl (by omega) (by omega) ?_
      refine wq_istore (pc := 1394) (L' := [(26, _), (25, _), (22, _), (7, _), (21, _), (0, _), (1, _), (2, _), (3, _), (4, _), (5, _), (6, _), (8, _), (10, _), (11, _), (12, _), (13, _), (14, _), (15, _), (16, _), (17, _), (18, _), (19, _), (20, _), (23, _), (24, _)]) dL_law_1394 rfl (by decide) ?_
      refine wq_aload_n (pc := 1396) dL_law_1396 rfl rfl ?_
      refine wq_iconst (pc := 1397) dL_law_1397 ?_
      refine wq_iload (pc := 1398) dL_law_1398 rfl ?_
      refine wq_imul (pc := 1400) dL_law_1400 ?_
      refine wq_iconst (pc := 1401) dL_law_1401 ?_
      refine wq_iadd (pc := 1402) dL_law_1402 ?_
      refine wq_ialdX (pc := 1403) dL_law_1403 (by with_reducible assumption) rfl (by omega) (by omega) ?_
      refine wq_istore (pc := 1404) (L' := [(27, _), (26, _), (25, _), (22, _), (7, _), (21, _), (0, _), (1, _), (2, _), (3, _), (4, _), (5, _), (6, _), (8, _), (10, _), (11, _), (12, _), (13, _), (14, _), (15, _), (16, _), (17, _), (18, _), (19, _), (20, _), (23, _), (24, _)]) dL_law_1404 rfl (by decide) ?_
      refine wq_iload (pc := 1406) dL_law_1406 rfl ?_
      refine wq_if_lt (pc := 1408) (tgt := 1424) dL_law_1408 (by decide) (by unfold inR; omega) (fun c35 => ?_) (fun c35 => ?_)
      · skip
        obtain ⟨X1, W1, hk1, im1, hL1⟩ : ∃ X1 : nMem, Wd N A2 (nb + 1) (vb + 2) (t + 9) X1 mm ee ∧ ((o < 0 ∧ X1 = X) ∨ (0 ≤ o ∧ tkX X X1 o)) ∧ (∀ j, X1 (-1) j = X (-1) j) ∧ (LX X1 ∧ X1 21 0 ≤ 13 ∧ X1 21 1 ≤ 7) := ⟨X, W3, Or.inl ⟨by omega, rfl⟩, fun _ => rfl, hX.1, by omega, by omega⟩
        refine wq_aload_n (pc := 1424) dL_law_1424 rfl rfl ?_
        refine wq_aload_n (pc := 1425) dL_law_1425 rfl rfl ?_
        refine wq_iload (pc := 1426) dL_law_1426 rfl ?_
        refine wq_iload (pc := 1428) dL_law_1428 rfl ?_
        refine wq_iload (pc := 1430) dL_law_1430 rfl ?_
        refine wq_iload (pc := 1432) dL_law_1432 rfl ?_
        refine lS_6 (pc := 1434) dL_law_1434 (cw_L_123 _ rfl) ⟨by decide, by decide⟩ (Nat.le_of_ble_eq_true rfl) (sW_adds W1 hL1.1.1.1 (by omega) (fun X2 W2b ad im2 => ?_))
        show wpL 1437 _ _ _ _ _
        obtain ⟨ad1, ad2, ad3, ad4⟩ := id ad
        have hL2 : LXs X2 := ⟨LX_ad ad hL1.1 (by omega) (by unfold inR; omega) (by unfold inR; omega) (hr2 _) (hr2 _), by omega, by omega⟩
        have hi2 : ∀ j, inR (X2 (-1) j) := fun j => by rw [im2, im1]; exact hi j
        have hE := ST_i W2b (JA_EQ (hJm X1 X2 hk1 ad) (EQ_trans hdE hE2)) hL2 hD2 hV2 hi2
        refine wq_iload (pc := 1437) dL_law_1437 rfl ?_
        refine wq_if_ne (pc := 1439) (tgt := 1462) dL_law_1439 (by decide) (by first | (unfold inR; omega) | assumption | exact hr2 _ | exact hr3 _ | exact hr4 _) (fun _ => ?_) (fun c => absurd c (by decide))
        refine wq_goto (pc := 1462) (tgt := 2040) dL_law_1462 (by decide) ?_
        refine wq_sub1 (L' := [(0, _), (1, _), (2, _), (3, _), (4, _), (5, _), (6, _), (7, _), (8, _), (11, _), (22, _)]) ⟨rfl, rfl, rfl, rfl, rfl, rfl, rfl, rfl, rfl, rfl, rfl, trivial⟩ ?_
        exact H _ _ _ _ _ (ST_t hE (by omega) (by omega) (by omega) (by omega))
      · skip
        refine wq_aload_n (pc := 1411) dL_law_1411 rfl rfl ?_
        refine wq_aload_n (pc := 1412) dL_law_1412 rfl rfl ?_
        refine wq_aload (pc := 1413) dL_law_1413 rfl ?_
        refine wq_aload (pc := 1415) dL_law_1415 rfl ?_
        refine wq_aload (pc := 1417) dL_law_1417 rfl ?_
        refine wq_iload (pc := 1419) dL_law_1419 rfl ?_
        refine lS_6 (pc := 1421) dL_law_1421 (cw_L_131 _ rfl) ⟨by decide, by decide⟩ (Nat.le_of_ble_eq_true rfl) (sW_takes W3 hX.1 ⟨by omega, by omega⟩ (fun X1 W1 tk im1 => ?_))
        show wpL 1424 _ _ _ _ _
        have hL1 : LX X1 ∧ X1 21 0 ≤ 13 ∧ X1 21 1 ≤ 7 := ⟨LX_tk tk hX.1 ⟨by omega, by omega⟩, by have := tk.1; omega, by
          by_cases c9 : txD X X1 o
          · have := (tk.2.2.1 c9).1; omega
          · have := (tk.2.2.2 c9).1; omega⟩
        have hk1 : (o < 0 ∧ X1 = X) ∨ (0 ≤ o ∧ tkX X X1 o) := Or.inr ⟨by omega, tk⟩
        refine wq_aload_n (pc := 1424) dL_law_1424 rfl rfl ?_
        refine wq_aload_n (pc := 1425) dL_law_1425 rfl rfl ?_
        refine wq_iload (pc := 1426) dL_law_1426 rfl ?_
        refine wq_iload (pc := 1428) dL_law_1428 rfl ?_
        refine wq_iload (pc := 1430) dL_law_1430 rfl ?_
        refine wq_iload (pc := 1432) dL_law_1432 rfl ?_
        refine lS_6 (pc := 1434) dL_law_1434 (cw_L_123 _ rfl) ⟨by decide, by decide⟩ (Nat.le_of_ble_eq_true rfl) (sW_adds W1 hL1.1.1.1 (by omega) (fun X2 W2b ad im2 => ?_))
        show wpL 1437 _ _ _ _ _
        obtain ⟨ad1, ad2, ad3, ad4⟩ := id ad
        have hL2 : LXs X2 := ⟨LX_ad ad hL1.1 (by omega) (by unfold inR; omega) (by unfold inR; omega) (hr2 _) (hr2 _), by omega, by omega⟩
        have hi2 : ∀ j, inR (X2 (-1) j) := fun j => by rw [im2, im1]; exact hi j
        have hE := ST_i W2b (JA_EQ (hJm X1 X2 hk1 ad) (EQ_trans hdE hE2)) hL2 hD2 hV2 hi2
        refine wq_iload (pc := 1437) dL_law_1437 rfl ?_
        refine wq_if_ne (pc := 1439) (tgt := 1462) dL_law_1439 (by decide) (by first | (unfold inR; omega) | assumption | exact hr2 _ | exact hr3 _ | exact hr4 _) (fun _ => ?_) (fun c => absurd c (by decide))
        refine wq_goto (pc := 1462) (tgt := 2040) dL_law_1462 (by decide) ?_
        refine wq_sub1 (L' := [(0, _), (1, _), (2, _), (3, _), (4, _), (5, _), (6, _), (7, _), (8, _), (11, _), (22, _)]) ⟨rfl, rfl, rfl, rfl, rfl, rfl, rfl, rfl, rfl, rfl, rfl, trivial⟩ ?_
        exact H _ _ _ _ _ (ST_t hE (by omega) (by omega) (by omega) (by omega))
  · skip
    show wpL 1209 _ _ _ _ _
    have hrr : inR r := by rw [hr.1]; exact hr2 _
    refine wq_istore (pc := 1209) (L' := [(21, _), (0, _), (1, _), (2, _), (3, _), (4, _), (5, _), (6, _), (7, _), (8, _), (10, _), (11, _), (12, _), (13, _), (14, _), (15, _), (16, _), (17, _), (18, _), (19, _), (20, _), (22, _), (23, _), (24, _)]) dL_law_1209 rfl (by decide) ?_
    refine wq_iload (pc := 1211) dL_law_1211 rfl ?_
    refine wq_bipush (pc := 1213) dL_law_1213 (by decide) (by decide) ?_
    refine wq_icmp_ne (pc := 1215) (tgt := 1222) dL_law_1215 (by decide) (by first | (unfold inR; omega) | assumption | exact hr2 _ | exact hr3 _ | exact hr4 _) (by first | (unfold inR; omega) | assumption | exact hr2 _ | exact hr3 _ | exact hr4 _) (fun c41 => ?_) (fun c9 => by exfalso; omega)
    refine wq_iconst (pc := 1222) dL_law_1222 ?_
    refine wq_istore (pc := 1223) (L' := [(22, _), (21, _), (0, _), (1, _), (2, _), (3, _), (4, _), (5, _), (6, _), (7, _), (8, _), (10, _), (11, _), (12, _), (13, _), (14, _), (15, _), (16, _), (17, _), (18, _), (19, _), (20, _), (23, _), (24, _)]) dL_law_1223 rfl (by decide) ?_
    refine wq_iload (pc := 1225) dL_law_1225 rfl ?_
    refine wq_if_ne (pc := 1227) (tgt := 1265) dL_law_1227 (by decide) (by first | (unfold inR; omega) | assumption | exact hr2 _ | exact hr3 _ | exact hr4 _) (fun _ => ?_) (fun c => absurd c (by decide))
    refine wq_iload (pc := 1265) dL_law_1265 rfl ?_
    refine wq_aload_n (pc := 1267) dL_law_1267 rfl rfl ?_
    refine wq_iconst (pc := 1268) dL_law_1268 ?_
    refine wq_iload (pc := 1269) dL_law_1269 rfl ?_
    refine wq_imul (pc := 1271) dL_law_1271 ?_
    refine wq_iconst (pc := 1272) dL_law_1272 ?_
    refine wq_iadd (pc := 1273) dL_law_1273 ?_
    refine wq_ialdX (pc := 1274) dL_law_1274 (by with_reducible assumption) rfl (by omega) (by omega) ?_
    refine wq_icmp_eq (pc := 1275) (tgt := 1296) dL_law_1275 (by decide) (by first | assumption | (unfold inR; omega)) (hr2 _) (fun c43 => ?_) (fun c9 => by exfalso; omega)
    refine wq_iconst (pc := 1296) dL_law_1296 ?_
    refine wq_goto (pc := 1297) (tgt := 1301) dL_law_1297 (by decide) ?_
    refine wq_istore (pc := 1301) (L' := [(7, _), (22, _), (21, _), (0, _), (1, _), (2, _), (3, _), (4, _), (5, _), (6, _), (8, _), (10, _), (11, _), (12, _), (13, _), (14, _), (15, _), (16, _), (17, _), (18, _), (19, _), (20, _), (23, _), (24, _)]) dL_law_1301 rfl (by decide) ?_
    refine wq_iconst (pc := 1303) dL_law_1303 ?_
    refine wq_istore (pc := 1304) (L' := [(25, _), (7, _), (22, _), (21, _), (0, _), (1, _), (2, _), (3, _), (4, _), (5, _), (6, _), (8, _), (10, _), (11, _), (12, _), (13, _), (14, _), (15, _), (16, _), (17, _), (18, _), (19, _), (20, _), (23, _), (24, _)]) dL_law_1304 rfl (by decide) ?_
    refine wq_iload (pc := 1306) dL_law_1306 rfl ?_
    refine wq_if_eq (pc := 1308) (tgt := 1366) dL_law_1308 (by decide) (by first | (unfold inR; omega) | assumption | exact hr2 _ | exact hr3 _ | exact hr4 _) (fun _ => ?_) (fun c => absurd c (by decide))
    refine wq_iload (pc := 1366) dL_law_1366 rfl ?_
    refine wq_if_eq (pc := 1368) (tgt := 1462) dL_law_1368 (by decide) (by first | (unfold inR; omega) | assumption | exact hr2 _ | exact hr3 _ | exact hr4 _) (fun c => absurd c (by decide)) (fun _ => ?_)
    refine wq_iload (pc := 1371) dL_law_1371 rfl ?_
    refine wq_if_eq (pc := 1373) (tgt := 1462) dL_law_1373 (by decide) (by first | (unfold inR; omega) | assumption | exact hr2 _ | exact hr3 _ | exact hr4 _) (fun c => absurd c (by decide)) (fun _ => ?_)
    refine wq_iload (pc := 1376) dL_law_1376 rfl ?_
    refine wq_if_gt (pc := 1378) (tgt := 1386) dL_law_1378 (by decide) (by first | (unfold inR; omega) | assumption | exact hr2 _ | exact hr3 _ | exact hr4 _) (fun c47 => ?_) (fun c9 => by exfalso; omega)
    refine wq_aload_n (pc := 1386) dL_law_1386 rfl rfl ?_
    refine wq_iconst (pc := 1387) dL_law_1387 ?_
    refine wq_iload (pc := 1388) dL_law_1388 rfl ?_
    refine wq_imul (pc := 1390) dL_law_1390 ?_
    refine wq_iconst (pc := 1391) dL_law_1391 ?_
    refine wq_iadd (pc := 1392) dL_law_1392 ?_
    refine wq_ialdX (pc := 1393) dL_law_1393 (by with_reducible assumption) rfl (by omega) (by omega) ?_
    refine wq_istore (pc := 1394) (L' := [(26, _), (25, _), (7, _), (22, _), (21, _), (0, _), (1, _), (2, _), (3, _), (4, _), (5, _), (6, _), (8, _), (10, _), (11, _), (12, _), (13, _), (14, _), (15, _), (16, _), (17, _), (18, _), (19, _), (20, _), (23, _), (24, _)]) dL_law_1394 rfl (by decide) ?_
    refine wq_aload_n (pc := 1396) dL_law_1396 rfl rfl ?_
    refine wq_iconst (pc := 1397) dL_law_1397 ?_
    refine wq_iload (pc := 1398) dL_law_1398 rfl ?_
    refine wq_imul (pc := 1400) dL_law_1400 ?_
    refine wq_iconst (pc := 1401) dL_law_1401 ?_
    refine wq_iadd (pc := 1402) dL_law_1402 ?_
    refine wq_ialdX (pc := 1403) dL_law_1403 (by with_reducible assumption) rfl (by omega) (by omega) ?_
    refine wq_istore (pc := 1404) (L' := [(27, _), (26, _), (25, _), (7, _), (22, _), (21, _), (0, _), (1, _), (2, _), (3, _), (4, _), (5, _), (6, _), (8, _), (10, _), (11, _), (12, _), (13, _), (14, _), (15, _), (16, _), (17, _), (18, _), (19, _), (20, _), (23, _), (24, _)]) dL_law_1404 rfl (by decide) ?_
    refine wq_iload (pc := 1406) dL_law_1406 rfl ?_
    refine wq_if_lt (pc := 1408) (tgt := 1424) dL_law_1408 (by decide) (by unfold inR; omega) (fun c48 => ?_) (fun c48 => ?_)
    · skip
      obtain ⟨X1, W1, hk1, im1, hL1⟩ : ∃ X1 : nMem, Wd N A1 (nb + 1) (vb + 2) (t + 30) X1 mm ee ∧ ((o < 0 ∧ X1 = X) ∨ (0 ≤ o ∧ tkX X X1 o)) ∧ (∀ j, X1 (-1) j = X (-1) j) ∧ (LX X1 ∧ X1 21 0 ≤ 13 ∧ X1 21 1 ≤ 7) := ⟨X, W, Or.inl ⟨by omega, rfl⟩, fun _ => rfl, hX.1, by omega, by omega⟩
      refine wq_aload_n (pc := 1424) dL_law_1424 rfl rfl ?_
      refine wq_aload_n (pc := 1425) dL_law_1425 rfl rfl ?_
      refine wq_iload (pc := 1426) dL_law_1426 rfl ?_
      refine wq_iload (pc := 1428) dL_law_1428 rfl ?_
      refine wq_iload (pc := 1430) dL_law_1430 rfl ?_
      refine wq_iload (pc := 1432) dL_law_1432 rfl ?_
      refine lS_6 (pc := 1434) dL_law_1434 (cw_L_123 _ rfl) ⟨by decide, by decide⟩ (Nat.le_of_ble_eq_true rfl) (sW_adds W1 hL1.1.1.1 (by omega) (fun X2 W2b ad im2 => ?_))
      show wpL 1437 _ _ _ _ _
      obtain ⟨ad1, ad2, ad3, ad4⟩ := id ad
      have hL2 : LXs X2 := ⟨LX_ad ad hL1.1 (by omega) (by unfold inR; omega) (by unfold inR; omega) (hr2 _) (hr2 _), by omega, by omega⟩
      have hi2 : ∀ j, inR (X2 (-1) j) := fun j => by rw [im2, im1]; exact hi j
      obtain ⟨ha9, hj4⟩ := hJA X1 X2 hk1 ad hL2.1
      refine wq_iload (pc := 1437) dL_law_1437 rfl ?_
      refine wq_if_ne (pc := 1439) (tgt := 1462) dL_law_1439 (by decide) (by first | (unfold inR; omega) | assumption | exact hr2 _ | exact hr3 _ | exact hr4 _) (fun c => absurd c (by decide)) (fun _ => ?_)
      refine wq_aload_n (pc := 1442) dL_law_1442 rfl rfl ?_
      refine wq_aload_n (pc := 1443) dL_law_1443 rfl rfl ?_
      refine wq_aload (pc := 1444) dL_law_1444 rfl ?_
      refine wq_aload (pc := 1446) dL_law_1446 rfl ?_
      refine wq_aload (pc := 1448) dL_law_1448 rfl ?_
      refine wq_aload_n (pc := 1450) dL_law_1450 rfl rfl ?_
      refine wq_aload_n (pc := 1451) dL_law_1451 rfl rfl ?_
      refine wq_iload (pc := 1452) dL_law_1452 rfl ?_
      refine wq_iload (pc := 1454) dL_law_1454 rfl ?_
      refine lS_4 (pc := 1456) dL_law_1456 (cw_L_98 _ rfl) ⟨by decide, by decide⟩ (Nat.le_of_ble_eq_true rfl) (sW_find W2b hL2.1 (by unfold inR; omega) (by unfold inR; omega) ?_)
      show wpL 1459 _ _ _ _ _
      obtain ⟨a9, hA9⟩ : ∃ a9, a9 = lsP (pF (X2 22) d nm) (X2 21 0).toNat := ⟨_, rfl⟩
      rw [← hA9] at ha9 hj4 ⊢
      refine lS_6 (pc := 1459) dL_law_1459 (cw_L_131 _ rfl) ⟨by decide, by decide⟩ (Nat.le_of_ble_eq_true rfl) (sW_takes W2b hL2.1 ha9 (fun X3 W3b tk3 im3 => ?_))
      show wpL 1462 _ _ _ _ _
      have hE := ST_i W3b (hj4 X3 tk3) ⟨LX_tk tk3 hL2.1 ha9, by have := tk3.1; omega, by
        have := hL2.2.2
        by_cases c9 : txD X2 X3 a9
        · have := (tk3.2.2.1 c9).1; omega
        · have := (tk3.2.2.2 c9).1; omega⟩ hz.1 hz.2 (fun j => by rw [im3]; exact hi2 j)
      refine wq_goto (pc := 1462) (tgt := 2040) dL_law_1462 (by decide) ?_
      refine wq_sub1 (L' := [(0, _), (1, _), (2, _), (3, _), (4, _), (5, _), (6, _), (7, _), (8, _), (11, _), (22, _)]) ⟨rfl, rfl, rfl, rfl, rfl, rfl, rfl, rfl, rfl, rfl, rfl, trivial⟩ ?_
      exact H _ _ _ _ _ (ST_t hE (by omega) (by omega) (by omega) (by omega))
    · skip
      refine wq_aload_n (pc := 1411) dL_law_1411 rfl rfl ?_
      refine wq_aload_n (pc := 1412) dL_law_1412 rfl rfl ?_
      refine wq_aload (pc := 1413) dL_law_1413 rfl ?_
      refine wq_aload (pc := 1415) dL_law_1415 rfl ?_
      refine wq_aload (pc := 1417) dL_law_1417 rfl ?_
      refine wq_iload (pc := 1419) dL_law_1419 rfl ?_
      refine lS_6 (pc := 1421) dL_law_1421 (cw_L_131 _ rfl) ⟨by decide, by decide⟩ (Nat.le_of_ble_eq_true rfl) (sW_takes W hX.1 ⟨by omega, by omega⟩ (fun X1 W1 tk im1 => ?_))
      show wpL 1424 _ _ _ _ _
      have hL1 : LX X1 ∧ X1 21 0 ≤ 13 ∧ X1 21 1 ≤ 7 := ⟨LX_tk tk hX.1 ⟨by omega, by omega⟩, by have := tk.1; omega, by
        by_cases c9 : txD X X1 o
        · have := (tk.2.2.1 c9).1; omega
        · have := (tk.2.2.2 c9).1; omega⟩
      have hk1 : (o < 0 ∧ X1 = X) ∨ (0 ≤ o ∧ tkX X X1 o) := Or.inr ⟨by omega, tk⟩
      refine wq_aload_n (pc := 1424) dL_law_1424 rfl rfl ?_
      refine wq_aload_n (pc := 1425) dL_law_1425 rfl rfl ?_
      refine wq_iload (pc := 1426) dL_law_1426 rfl ?_
      refine wq_iload (pc := 1428) dL_law_1428 rfl ?_
      refine wq_iload (pc := 1430) dL_law_1430 rfl ?_
      refine wq_iload (pc := 1432) dL_law_1432 rfl ?_
      refine lS_6 (pc := 1434) dL_law_1434 (cw_L_123 _ rfl) ⟨by decide, by decide⟩ (Nat.le_of_ble_eq_true rfl) (sW_adds W1 hL1.1.1.1 (by omega) (fun X2 W2b ad im2 => ?_))
      show wpL 1437 _ _ _ _ _
      obtain ⟨ad1, ad2, ad3, ad4⟩ := id ad
      have hL2 : LXs X2 := ⟨LX_ad ad hL1.1 (by omega) (by unfold inR; omega) (by unfold inR; omega) (hr2 _) (hr2 _), by omega, by omega⟩
      have hi2 : ∀ j, inR (X2 (-1) j) := fun j => by rw [im2, im1]; exact hi j
      obtain ⟨ha9, hj4⟩ := hJA X1 X2 hk1 ad hL2.1
      refine wq_iload (pc := 1437) dL_law_1437 rfl ?_
      refine wq_if_ne (pc := 1439) (tgt := 1462) dL_law_1439 (by decide) (by first | (unfold inR; omega) | assumption | exact hr2 _ | exact hr3 _ | exact hr4 _) (fun c => absurd c (by decide)) (fun _ => ?_)
      refine wq_aload_n (pc := 1442) dL_law_1442 rfl rfl ?_
      refine wq_aload_n (pc := 1443) dL_law_1443 rfl rfl ?_
      refine wq_aload (pc := 1444) dL_law_1444 rfl ?_
      refine wq_aload (pc := 1446) dL_law_1446 rfl ?_
      refine wq_aload (pc := 1448) dL_law_1448 rfl ?_
      refine wq_aload_n (pc := 1450) dL_law_1450 rfl rfl ?_
      refine wq_aload_n (pc := 1451) dL_law_1451 rfl rfl ?_
      refine wq_iload (pc := 1452) dL_law_1452 rfl ?_
      refine wq_iload (pc := 1454) dL_law_1454 rfl ?_
      refine lS_4 (pc := 1456) dL_law_1456 (cw_L_98 _ rfl) ⟨by decide, by decide⟩ (Nat.le_of_ble_eq_true rfl) (sW_find W2b hL2.1 (by unfold inR; omega) (by unfold inR; omega) ?_)
      show wpL 1459 _ _ _ _ _
      obtain ⟨a9, hA9⟩ : ∃ a9, a9 = lsP (pF (X2 22) d nm) (X2 21 0).toNat := ⟨_, rfl⟩
      rw [← hA9] at ha9 hj4 ⊢
      refine lS_6 (pc := 1459) dL_law_1459 (cw_L_131 _ rfl) ⟨by decide, by decide⟩ (Nat.le_of_ble_eq_true rfl) (sW_takes W2b hL2.1 ha9 (fun X3 W3b tk3 im3 => ?_))
      show wpL 1462 _ _ _ _ _
      have hE := ST_i W3b (hj4 X3 tk3) ⟨LX_tk tk3 hL2.1 ha9, by have := tk3.1; omega, by
        have := hL2.2.2
        by_cases c9 : txD X2 X3 a9
        · have := (tk3.2.2.1 c9).1; omega
        · have := (tk3.2.2.2 c9).1; omega⟩ hz.1 hz.2 (fun j => by rw [im3]; exact hi2 j)
      refine wq_goto (pc := 1462) (tgt := 2040) dL_law_1462 (by decide) ?_
      refine wq_sub1 (L' := [(0, _), (1, _), (2, _), (3, _), (4, _), (5, _), (6, _), (7, _), (8, _), (11, _), (22, _)]) ⟨rfl, rfl, rfl, rfl, rfl, rfl, rfl, rfl, rfl, rfl, rfl, trivial⟩ ?_
      exact H _ _ _ _ _ (ST_t hE (by omega) (by omega) (by omega) (by omega))
theorem lw_rn {μ : nMem} {ε : nEnv} {Q : nOut → nMem → nEnv → Prop} {N : Int} {A : AS} {nb vb : Int} {t : Nat} {X : nMem} {turn kd y d d2 nm nm2 f s b a fr : Int} {o : Int} (hS : ST N A nb vb (t + 30 + 1) X μ ε 0) (hnb : nb + 1 ≤ 490) (hvb : vb + 2 ≤ 4000) (hvb0 : 0 ≤ vb) (hn2 : 2 ≤ nb) (ry : 0 ≤ y ∧ y ≤ 2147483647) (ht : 0 ≤ turn ∧ turn < 120) (hF : LF A X d d2 nm nm2 f s b a fr) (H : ∀ A1 X1 m e w, ST N A1 (nb + 1) (vb + 2) t X1 m e w → wpL 2040 [(0, vR (-1)), (1, vR 1), (2, vR 21), (3, vR 22), (4, vR 23), (5, vR 24), (6, vR 25), (7, vI 1), (8, vI turn), (11, vI y), (22, vI w)] [] m e Q) (hn13 : X 21 0 < 14) (ho : o = lsP (pF (X 22) d2 nm2) (X 21 0).toNat) (hvb2 : vb ≤ 300) (hc : ¬ (b = 1 ∧ 0 ≤ a ∧ (o < 0 ∨ (X 22 (4 * a + 2) ≠ X 22 (4 * o + 2) ∧ X 22 (4 * a + 3) + X 22 (4 * o + 3) = 0)) ∧ (X 22 (4 * a + 3) = 0 ∨ ¬ rB (X 22) (X 21 0) (X 22 (4 * a + 2)) d2))) : wpL 1197 [(0, vR (-1)), (1, vR 1), (2, vR 21), (3, vR 22), (4, vR 23), (5, vR 24), (6, vR 25), (7, vI 1), (8, vI turn), (10, vI kd), (11, vI y), (12, vI d), (13, vI d2), (14, vI nm), (15, vI nm2), (16, vI f), (17, vI s), (18, vI b), (19, vI a), (20, vI fr), (21, vI 0), (22, vI 0), (23, vI o), (24, vI 0)] [] μ ε Q := by
  obtain ⟨⟨hW, hG, hX, hi⟩, ⟨hD, hJ, hV, hZ⟩, fl, SS, hP, hTS⟩ := ST_0 hS
  obtain ⟨f1, f2, f3, f4, f5, f6, f7, f8, f9⟩ := id hF
  obtain ⟨⟨⟨hn0, hn15⟩, ⟨hm0, hm8⟩, hr2, hr3, hr4⟩, hn14, hm7⟩ := id hX
  have hs9 := GA_slot hG f
  have ha9 := GA_find hG d nm
  rw [← f7] at hs9
  rw [← f8] at ha9
  have hfr9 := (frN_le A).2
  rw [← f9] at hfr9
  clear f7 f8 f9
  refine wq_aload_n (pc := 1197) dL_law_1197 rfl rfl ?_
  refine wq_iload (pc := 1198) dL_law_1198 rfl ?_
  refine wq_iload (pc := 1200) dL_law_1200 rfl ?_
  refine wq_iload (pc := 1202) dL_law_1202 rfl ?_
  refine wq_iload (pc := 1204) dL_law_1204 rfl ?_
  refine cW_5 (pc := 1206) dL_law_1206 (cw_L_139 _ rfl) ⟨by decide, by decide⟩ (Nat.le_of_ble_eq_true rfl) (qc_rename hS hnb hvb hF ho (fun r mm ee hE hq hr => ?_) (fun mm ee hE hq hr => ?_) (fun A1 Fm mm ee W hq hd hmid => ?_) (fun A1 r mm ee W hq hr hJA hz => ?_))
  · skip
    show wpL 1209 _ _ _ _ _
    clear hq
    have hrr : inR r := by clear hc; unfold inR; omega
    have hr5 : r ≠ -9 := by clear hc; omega
    refine wq_istore (pc := 1209) (L' := [(21, _), (0, _), (1, _), (2, _), (3, _), (4, _), (5, _), (6, _), (7, _), (8, _), (10, _), (11, _), (12, _), (13, _), (14, _), (15, _), (16, _), (17, _), (18, _), (19, _), (20, _), (22, _), (23, _), (24, _)]) dL_law_1209 rfl (by decide) ?_
    refine wq_iload (pc := 1211) dL_law_1211 rfl ?_
    refine wq_bipush (pc := 1213) dL_law_1213 (by decide) (by decide) ?_
    refine wq_icmp_ne (pc := 1215) (tgt := 1222) dL_law_1215 (by decide) (by first | (unfold inR; omega) | assumption | exact hr2 _ | exact hr3 _ | exact hr4 _) (by first | (unfold inR; omega) | assumption | exact hr2 _ | exact hr3 _ | exact hr4 _) (fun c5 => ?_) (fun c9 => by exfalso; omega)
    refine wq_iconst (pc := 1222) dL_law_1222 ?_
    refine wq_istore (pc := 1223) (L' := [(22, _), (21, _), (0, _), (1, _), (2, _), (3, _), (4, _), (5, _), (6, _), (7, _), (8, _), (10, _), (11, _), (12, _), (13, _), (14, _), (15, _), (16, _), (17, _), (18, _), (19, _), (20, _), (23, _), (24, _)]) dL_law_1223 rfl (by decide) ?_
    refine wq_iload (pc := 1225) dL_law_1225 rfl ?_
    refine wq_if_ne (pc := 1227) (tgt := 1265) dL_law_1227 (by decide) (by first | (unfold inR; omega) | assumption | exact hr2 _ | exact hr3 _ | exact hr4 _) (fun c => absurd c (by decide)) (fun _ => ?_)
    refine wq_iload (pc := 1230) dL_law_1230 rfl ?_
    refine wq_iload (pc := 1232) dL_law_1232 rfl ?_
    refine wq_if_ne (pc := 1234) (tgt := 1242) dL_law_1234 (by decide) (by first | (unfold inR; omega) | assumption | exact hr2 _ | exact hr3 _ | exact hr4 _) (fun c7 => ?_) (fun c7 => ?_)
    · skip
      refine wq_iload (pc := 1242) dL_law_1242 rfl ?_
      refine wq_if_ne (pc := 1244) (tgt := 1252) dL_law_1244 (by decide) (by first | (unfold inR; omega) | assumption | exact hr2 _ | exact hr3 _ | exact hr4 _) (fun c8 => ?_) (fun c8 => ?_)
      · skip
        refine wq_bipush (pc := 1252) dL_law_1252 (by decide) (by decide) ?_
        refine wq_icmp_ne (pc := 1254) (tgt := 1261) dL_law_1254 (by decide) (by first | (unfold inR; omega) | assumption | exact hr2 _ | exact hr3 _ | exact hr4 _) (by first | (unfold inR; omega) | assumption | exact hr2 _ | exact hr3 _ | exact hr4 _) (fun c9 => by exfalso; omega) (fun c9 => ?_)
        refine wq_iconst (pc := 1257) dL_law_1257 ?_
        refine wq_goto (pc := 1258) (tgt := 1301) dL_law_1258 (by decide) ?_
        refine wq_istore (pc := 1301) (L' := [(7, _), (22, _), (21, _), (0, _), (1, _), (2, _), (3, _), (4, _), (5, _), (6, _), (8, _), (10, _), (11, _), (12, _), (13, _), (14, _), (15, _), (16, _), (17, _), (18, _), (19, _), (20, _), (23, _), (24, _)]) dL_law_1301 rfl (by decide) ?_
        refine wq_iconst (pc := 1303) dL_law_1303 ?_
        refine wq_istore (pc := 1304) (L' := [(25, _), (7, _), (22, _), (21, _), (0, _), (1, _), (2, _), (3, _), (4, _), (5, _), (6, _), (8, _), (10, _), (11, _), (12, _), (13, _), (14, _), (15, _), (16, _), (17, _), (18, _), (19, _), (20, _), (23, _), (24, _)]) dL_law_1304 rfl (by decide) ?_
        refine wq_iload (pc := 1306) dL_law_1306 rfl ?_
        refine wq_if_eq (pc := 1308) (tgt := 1366) dL_law_1308 (by decide) (by first | (unfold inR; omega) | assumption | exact hr2 _ | exact hr3 _ | exact hr4 _) (fun _ => ?_) (fun c => absurd c (by decide))
        refine wq_iload (pc := 1366) dL_law_1366 rfl ?_
        refine wq_if_eq (pc := 1368) (tgt := 1462) dL_law_1368 (by decide) (by first | (unfold inR; omega) | assumption | exact hr2 _ | exact hr3 _ | exact hr4 _) (fun c => absurd c (by decide)) (fun _ => ?_)
        refine wq_iload (pc := 1371) dL_law_1371 rfl ?_
        refine wq_if_eq (pc := 1373) (tgt := 1462) dL_law_1373 (by decide) (by first | (unfold inR; omega) | assumption | exact hr2 _ | exact hr3 _ | exact hr4 _) (fun _ => ?_) (fun c => absurd c (by decide))
        refine wq_goto (pc := 1462) (tgt := 2040) dL_law_1462 (by decide) ?_
        refine wq_sub1 (L' := [(0, _), (1, _), (2, _), (3, _), (4, _), (5, _), (6, _), (7, _), (8, _), (11, _), (22, _)]) ⟨rfl, rfl, rfl, rfl, rfl, rfl, rfl, rfl, rfl, rfl, rfl, trivial⟩ ?_
        exact H _ _ _ _ _ (ST_t hE (by omega) (by omega) (by omega) (by omega))
      · skip
        refine wq_bipush (pc := 1247) dL_law_1247 (by decide) (by decide) ?_
        refine wq_goto (pc := 1249) (tgt := 1254) dL_law_1249 (by decide) ?_
        refine wq_icmp_ne (pc := 1254) (tgt := 1261) dL_law_1254 (by decide) (by first | (unfold inR; omega) | assumption | exact hr2 _ | exact hr3 _ | exact hr4 _) (by first | (unfold inR; omega) | assumption | exact hr2 _ | exact hr3 _ | exact hr4 _) (fun c9 => by exfalso; omega) (fun c13 => ?_)
        refine wq_iconst (pc := 1257) dL_law_1257 ?_
        refine wq_goto (pc := 1258) (tgt := 1301) dL_law_1258 (by decide) ?_
        refine wq_istore (pc := 1301) (L' := [(7, _), (22, _), (21, _), (0, _), (1, _), (2, _), (3, _), (4, _), (5, _), (6, _), (8, _), (10, _), (11, _), (12, _), (13, _), (14, _), (15, _), (16, _), (17, _), (18, _), (19, _), (20, _), (23, _), (24, _)]) dL_law_1301 rfl (by decide) ?_
        refine wq_iconst (pc := 1303) dL_law_1303 ?_
        refine wq_istore (pc := 1304) (L' := [(25, _), (7, _), (22, _), (21, _), (0, _), (1, _), (2, _), (3, _), (4, _), (5, _), (6, _), (8, _), (10, _), (11, _), (12, _), (13, _), (14, _), (15, _), (16, _), (17, _), (18, _), (19, _), (20, _), (23, _), (24, _)]) dL_law_1304 rfl (by decide) ?_
        refine wq_iload (pc := 1306) dL_law_1306 rfl ?_
        refine wq_if_eq (pc := 1308) (tgt := 1366) dL_law_1308 (by decide) (by first | (unfold inR; omega) | assumption | exact hr2 _ | exact hr3 _ | exact hr4 _) (fun _ => ?_) (fun c => absurd c (by decide))
        refine wq_iload (pc := 1366) dL_law_1366 rfl ?_
        refine wq_if_eq (pc := 1368) (tgt := 1462) dL_law_1368 (by decide) (by first | (unfold inR; omega) | assumption | exact hr2 _ | exact hr3 _ | exact hr4 _) (fun c => absurd c (by decide)) (fun _ => ?_)
        refine wq_iload (pc := 1371) dL_law_1371 rfl ?_
        refine wq_if_eq (pc := 1373) (tgt := 1462) dL_law_1373 (by decide) (by first | (unfold inR; omega) | assumption | exact hr2 _ | exact hr3 _ | exact hr4 _) (fun _ => ?_) (fun c => absurd c (by decide))
        refine wq_goto (pc := 1462) (tgt := 2040) dL_law_1462 (by decide) ?_
        refine wq_sub1 (L' := [(0, _), (1, _), (2, _), (3, _), (4, _), (5, _), (6, _), (7, _), (8, _), (11, _), (22, _)]) ⟨rfl, rfl, rfl, rfl, rfl, rfl, rfl, rfl, rfl, rfl, rfl, trivial⟩ ?_
        exact H _ _ _ _ _ (ST_t hE (by omega) (by omega) (by omega) (by omega))
    · skip
      refine wq_bipush (pc := 1237) dL_law_1237 (by decide) (by decide) ?_
      refine wq_goto (pc := 1239) (tgt := 1254) dL_law_1239 (by decide) ?_
      refine wq_icmp_ne (pc := 1254) (tgt := 1261) dL_law_1254 (by decide) (by first | (unfold inR; omega) | assumption | exact hr2 _ | exact hr3 _ | exact hr4 _) (by first | (unfold inR; omega) | assumption | exact hr2 _ | exact hr3 _ | exact hr4 _) (fun c9 => by exfalso; omega) (fun c17 => ?_)
      refine wq_iconst (pc := 1257) dL_law_1257 ?_
      refine wq_goto (pc := 1258) (tgt := 1301) dL_law_1258 (by decide) ?_
      refine wq_istore (pc := 1301) (L' := [(7, _), (22, _), (21, _), (0, _), (1, _), (2, _), (3, _), (4, _), (5, _), (6, _), (8, _), (10, _), (11, _), (12, _), (13, _), (14, _), (15, _), (16, _), (17, _), (18, _), (19, _), (20, _), (23, _), (24, _)]) dL_law_1301 rfl (by decide) ?_
      refine wq_iconst (pc := 1303) dL_law_1303 ?_
      refine wq_istore (pc := 1304) (L' := [(25, _), (7, _), (22, _), (21, _), (0, _), (1, _), (2, _), (3, _), (4, _), (5, _), (6, _), (8, _), (10, _), (11, _), (12, _), (13, _), (14, _), (15, _), (16, _), (17, _), (18, _), (19, _), (20, _), (23, _), (24, _)]) dL_law_1304 rfl (by decide) ?_
      refine wq_iload (pc := 1306) dL_law_1306 rfl ?_
      refine wq_if_eq (pc := 1308) (tgt := 1366) dL_law_1308 (by decide) (by first | (unfold inR; omega) | assumption | exact hr2 _ | exact hr3 _ | exact hr4 _) (fun _ => ?_) (fun c => absurd c (by decide))
      refine wq_iload (pc := 1366) dL_law_1366 rfl ?_
      refine wq_if_eq (pc := 1368) (tgt := 1462) dL_law_1368 (by decide) (by first | (unfold inR; omega) | assumption | exact hr2 _ | exact hr3 _ | exact hr4 _) (fun c => absurd c (by decide)) (fun _ => ?_)
      refine wq_iload (pc := 1371) dL_law_1371 rfl ?_
      refine wq_if_eq (pc := 1373) (tgt := 1462) dL_law_1373 (by decide) (by first | (unfold inR; omega) | assumption | exact hr2 _ | exact hr3 _ | exact hr4 _) (fun _ => ?_) (fun c => absurd c (by decide))
      refine wq_goto (pc := 1462) (tgt := 2040) dL_law_1462 (by decide) ?_
      refine wq_sub1 (L' := [(0, _), (1, _), (2, _), (3, _), (4, _), (5, _), (6, _), (7, _), (8, _), (11, _), (22, _)]) ⟨rfl, rfl, rfl, rfl, rfl, rfl, rfl, rfl, rfl, rfl, rfl, trivial⟩ ?_
      exact H _ _ _ _ _ (ST_t hE (by omega) (by omega) (by omega) (by omega))
  · skip
    exact absurd hq hc
  · skip
    exact absurd hq hc
  · skip
    exact absurd hq hc
theorem lw_rename {μ : nMem} {ε : nEnv} {Q : nOut → nMem → nEnv → Prop} {N : Int} {A : AS} {nb vb : Int} {t : Nat} {X : nMem} {turn kd y d d2 nm nm2 f s b a fr : Int} (hS : ST N A nb vb (t + 35) X μ ε 0) (hnb : nb + 1 ≤ 490) (hvb : vb + 2 ≤ 4000) (hvb0 : 0 ≤ vb) (hn2 : 2 ≤ nb) (ry : 0 ≤ y ∧ y ≤ 2147483647) (ht : 0 ≤ turn ∧ turn < 120) (hF : LF A X d d2 nm nm2 f s b a fr) (H : ∀ A1 X1 m e w, ST N A1 (nb + 1) (vb + 2) t X1 m e w → wpL 2040 [(0, vR (-1)), (1, vR 1), (2, vR 21), (3, vR 22), (4, vR 23), (5, vR 24), (6, vR 25), (7, vI 1), (8, vI turn), (11, vI y), (22, vI w)] [] m e Q) (hn13 : X 21 0 < 14) (hvb2 : vb ≤ 300) : wpL 1096 [(0, vR (-1)), (1, vR 1), (2, vR 21), (3, vR 22), (4, vR 23), (5, vR 24), (6, vR 25), (7, vI 1), (8, vI turn), (10, vI kd), (11, vI y), (12, vI d), (13, vI d2), (14, vI nm), (15, vI nm2), (16, vI f), (17, vI s), (18, vI b), (19, vI a), (20, vI fr), (21, vI 0), (22, vI 0)] [] μ ε Q := by
  obtain ⟨⟨hW, hG, hX, hi⟩, ⟨hD, hJ, hV, hZ⟩, fl, SS, hP, hTS⟩ := ST_0 hS
  obtain ⟨f1, f2, f3, f4, f5, f6, f7, f8, f9⟩ := id hF
  obtain ⟨⟨⟨hn0, hn15⟩, ⟨hm0, hm8⟩, hr2, hr3, hr4⟩, hn14, hm7⟩ := id hX
  have hs9 := GA_slot hG f
  have ha9 := GA_find hG d nm
  rw [← f7] at hs9
  rw [← f8] at ha9
  have hfr9 := (frN_le A).2
  rw [← f9] at hfr9
  clear f7 f8 f9
  refine wq_aload_n (pc := 1096) dL_law_1096 rfl rfl ?_
  refine wq_aload_n (pc := 1097) dL_law_1097 rfl rfl ?_
  refine wq_iload (pc := 1098) dL_law_1098 rfl ?_
  refine wq_iload (pc := 1100) dL_law_1100 rfl ?_
  refine lS_4 (pc := 1102) dL_law_1102 (cw_L_98 _ rfl) ⟨by decide, by decide⟩ (Nat.le_of_ble_eq_true rfl) (sW_find hW hX.1 (by unfold inR; omega) (by unfold inR; omega) ?_)
  show wpL 1105 _ _ _ _ _
  obtain ⟨o, ho⟩ : ∃ o, o = lsP (pF (X 22) d2 nm2) (X 21 0).toNat := ⟨_, rfl⟩
  rw [← ho]
  have hgo := GA_find hG d2 nm2
  rw [← ho] at hgo
  refine wq_istore (pc := 1105) (L' := [(23, _), (0, _), (1, _), (2, _), (3, _), (4, _), (5, _), (6, _), (7, _), (8, _), (10, _), (11, _), (12, _), (13, _), (14, _), (15, _), (16, _), (17, _), (18, _), (19, _), (20, _), (21, _), (22, _)]) dL_law_1105 rfl (by decide) ?_
  refine wq_iload (pc := 1107) dL_law_1107 rfl ?_
  refine wq_if_eq (pc := 1109) (tgt := 1194) dL_law_1109 (by decide) (by first | (unfold inR; omega) | assumption | exact hr2 _ | exact hr3 _ | exact hr4 _) (fun c1 => ?_) (fun c1 => ?_)
  · skip
    refine wq_iconst (pc := 1194) dL_law_1194 ?_
    refine wq_istore (pc := 1195) (L' := [(24, _), (23, _), (0, _), (1, _), (2, _), (3, _), (4, _), (5, _), (6, _), (7, _), (8, _), (10, _), (11, _), (12, _), (13, _), (14, _), (15, _), (16, _), (17, _), (18, _), (19, _), (20, _), (21, _), (22, _)]) dL_law_1195 rfl (by decide) ?_
    refine wq_sub1 (L' := [(0, _), (1, _), (2, _), (3, _), (4, _), (5, _), (6, _), (7, _), (8, _), (10, _), (11, _), (12, _), (13, _), (14, _), (15, _), (16, _), (17, _), (18, _), (19, _), (20, _), (21, _), (22, _), (23, _), (24, _)]) ⟨rfl, rfl, rfl, rfl, rfl, rfl, rfl, rfl, rfl, rfl, rfl, rfl, rfl, rfl, rfl, rfl, rfl, rfl, rfl, rfl, rfl, rfl, rfl, rfl, trivial⟩ ?_
    exact lw_rn (by first | exact hS9 | exact ST_t hS (by omega) (by omega) (by omega) (by omega)) hnb hvb hvb0 hn2 ry ht hF H hn13 ho hvb2 (by rintro ⟨q1, q2, q3, q4⟩; first | omega | (rcases q4 with z | z; omega; exact z (hw.resolve_right (fun y => by have := y.1; omega)).2))
  · skip
    refine wq_iload (pc := 1112) dL_law_1112 rfl ?_
    refine wq_if_lt (pc := 1114) (tgt := 1194) dL_law_1114 (by decide) (by first | (unfold inR; omega) | assumption | exact hr2 _ | exact hr3 _ | exact hr4 _) (fun c2 => ?_) (fun c2 => ?_)
    · skip
      refine wq_iconst (pc := 1194) dL_law_1194 ?_
      refine wq_istore (pc := 1195) (L' := [(24, _), (23, _), (0, _), (1, _), (2, _), (3, _), (4, _), (5, _), (6, _), (7, _), (8, _), (10, _), (11, _), (12, _), (13, _), (14, _), (15, _), (16, _), (17, _), (18, _), (19, _), (20, _), (21, _), (22, _)]) dL_law_1195 rfl (by decide) ?_
      refine wq_sub1 (L' := [(0, _), (1, _), (2, _), (3, _), (4, _), (5, _), (6, _), (7, _), (8, _), (10, _), (11, _), (12, _), (13, _), (14, _), (15, _), (16, _), (17, _), (18, _), (19, _), (20, _), (21, _), (22, _), (23, _), (24, _)]) ⟨rfl, rfl, rfl, rfl, rfl, rfl, rfl, rfl, rfl, rfl, rfl, rfl, rfl, rfl, rfl, rfl, rfl, rfl, rfl, rfl, rfl, rfl, rfl, rfl, trivial⟩ ?_
      exact lw_rn (by first | exact hS9 | exact ST_t hS (by omega) (by omega) (by omega) (by omega)) hnb hvb hvb0 hn2 ry ht hF H hn13 ho hvb2 (by rintro ⟨q1, q2, q3, q4⟩; first | omega | (rcases q4 with z | z; omega; exact z (hw.resolve_right (fun y => by have := y.1; omega)).2))
    · skip
      have hge := GA_e hG (i := a) (by omega) (by omega)
      have hk0 : X 22 (4 * a + 3) = 0 ∨ X 22 (4 * a + 3) = 1 := by
        rcases hge.2.2.2 with z | z
        · exact Or.inr z.1
        · exact Or.inl z.1
      refine wq_iload (pc := 1117) dL_law_1117 rfl ?_
      refine wq_if_lt (pc := 1119) (tgt := 1161) dL_law_1119 (by decide) (by first | (unfold inR; omega) | assumption | exact hr2 _ | exact hr3 _ | exact hr4 _) (fun c3 => ?_) (fun c3 => ?_)
      · skip
        refine wq_aload_n (pc := 1161) dL_law_1161 rfl rfl ?_
        refine wq_iconst (pc := 1162) dL_law_1162 ?_
        refine wq_iload (pc := 1163) dL_law_1163 rfl ?_
        refine wq_imul (pc := 1165) dL_law_1165 ?_
        refine wq_iconst (pc := 1166) dL_law_1166 ?_
        refine wq_iadd (pc := 1167) dL_law_1167 ?_
        refine wq_ialdX (pc := 1168) dL_law_1168 (by with_reducible assumption) rfl (by omega) (by omega) ?_
        refine wq_if_eq (pc := 1169) (tgt := 1190) dL_law_1169 (by decide) (by first | (unfold inR; omega) | assumption | exact hr2 _ | exact hr3 _ | exact hr4 _) (fun c4 => ?_) (fun c4 => ?_)
        · skip
          refine wq_iconst (pc := 1190) dL_law_1190 ?_
          refine wq_goto (pc := 1191) (tgt := 1195) dL_law_1191 (by decide) ?_
          refine wq_istore (pc := 1195) (L' := [(24, _), (23, _), (0, _), (1, _), (2, _), (3, _), (4, _), (5, _), (6, _), (7, _), (8, _), (10, _), (11, _), (12, _), (13, _), (14, _), (15, _), (16, _), (17, _), (18, _), (19, _), (20, _), (21, _), (22, _)]) dL_law_1195 rfl (by decide) ?_
          refine wq_sub1 (L' := [(0, _), (1, _), (2, _), (3, _), (4, _), (5, _), (6, _), (7, _), (8, _), (10, _), (11, _), (12, _), (13, _), (14, _), (15, _), (16, _), (17, _), (18, _), (19, _), (20, _), (21, _), (22, _), (23, _), (24, _)]) ⟨rfl, rfl, rfl, rfl, rfl, rfl, rfl, rfl, rfl, rfl, rfl, rfl, rfl, rfl, rfl, rfl, rfl, rfl, rfl, rfl, rfl, rfl, rfl, rfl, trivial⟩ ?_
          exact lw_ry (by first | exact hS9 | exact ST_t hS (by omega) (by omega) (by omega) (by omega)) hnb hvb hvb0 hn2 ry ht hF H hn13 ho hvb2 ⟨by omega, by omega, by omega, by first | (left; omega) | (right; rcases hw with z | z; (exfalso; have := z.1; omega); exact z.2)⟩
        · skip
          refine wq_aload_n (pc := 1172) dL_law_1172 rfl rfl ?_
          refine wq_aload_n (pc := 1173) dL_law_1173 rfl rfl ?_
          refine wq_iload (pc := 1174) dL_law_1174 rfl ?_
          refine wq_aload_n (pc := 1176) dL_law_1176 rfl rfl ?_
          refine wq_iconst (pc := 1177) dL_law_1177 ?_
          refine wq_iload (pc := 1178) dL_law_1178 rfl ?_
          refine wq_imul (pc := 1180) dL_law_1180 ?_
          refine wq_iconst (pc := 1181) dL_law_1181 ?_
          refine wq_iadd (pc := 1182) dL_law_1182 ?_
          refine wq_ialdX (pc := 1183) dL_law_1183 (by with_reducible assumption) rfl (by omega) (by omega) ?_
          refine lS_4 (pc := 1184) dL_law_1184 (cw_L_135 _ rfl) ⟨by decide, by decide⟩ (Nat.le_of_ble_eq_true rfl) (sp_L_isInside (t := t + 31) (Wd_t hW (by omega)) (by rw [Wd_x hW (x := 21) (by omega)]; exact hn0) (by rw [Wd_x hW (x := 21) (by omega)]; exact hn15) (by rw [Wd_x hW (x := 22) (by omega)]; exact hr2) (by unfold inR; omega) (hr2 _) (fun w9 mm ee W9 hw => ?_))
          show wpL 1187 _ _ _ _ _
          rw [Wd_x hW (x := 22) (by omega), Wd_x hW (x := 21) (by omega)] at hw
          have hw9 : inR w9 := by unfold inR; omega
          have hS9 : ST N A nb vb (t + 30 + 1) X mm ee 0 := ⟨W9, hS.2⟩
          refine wq_if_ne (pc := 1187) (tgt := 1194) dL_law_1187 (by decide) hw9 (fun c6 => ?_) (fun c6 => ?_)
          · skip
            refine wq_iconst (pc := 1194) dL_law_1194 ?_
            refine wq_istore (pc := 1195) (L' := [(24, _), (23, _), (0, _), (1, _), (2, _), (3, _), (4, _), (5, _), (6, _), (7, _), (8, _), (10, _), (11, _), (12, _), (13, _), (14, _), (15, _), (16, _), (17, _), (18, _), (19, _), (20, _), (21, _), (22, _)]) dL_law_1195 rfl (by decide) ?_
            refine wq_sub1 (L' := [(0, _), (1, _), (2, _), (3, _), (4, _), (5, _), (6, _), (7, _), (8, _), (10, _), (11, _), (12, _), (13, _), (14, _), (15, _), (16, _), (17, _), (18, _), (19, _), (20, _), (21, _), (22, _), (23, _), (24, _)]) ⟨rfl, rfl, rfl, rfl, rfl, rfl, rfl, rfl, rfl, rfl, rfl, rfl, rfl, rfl, rfl, rfl, rfl, rfl, rfl, rfl, rfl, rfl, rfl, rfl, trivial⟩ ?_
            exact lw_rn (by first | exact hS9 | exact ST_t hS (by omega) (by omega) (by omega) (by omega)) hnb hvb hvb0 hn2 ry ht hF H hn13 ho hvb2 (by rintro ⟨q1, q2, q3, q4⟩; first | omega | (rcases q4 with z | z; omega; exact z (hw.resolve_right (fun y => by have := y.1; omega)).2))
          · skip
            refine wq_iconst (pc := 1190) dL_law_1190 ?_
            refine wq_goto (pc := 1191) (tgt := 1195) dL_law_1191 (by decide) ?_
            refine wq_istore (pc := 1195) (L' := [(24, _), (23, _), (0, _), (1, _), (2, _), (3, _), (4, _), (5, _), (6, _), (7, _), (8, _), (10, _), (11, _), (12, _), (13, _), (14, _), (15, _), (16, _), (17, _), (18, _), (19, _), (20, _), (21, _), (22, _)]) dL_law_1195 rfl (by decide) ?_
            refine wq_sub1 (L' := [(0, _), (1, _), (2, _), (3, _), (4, _), (5, _), (6, _), (7, _), (8, _), (10, _), (11, _), (12, _), (13, _), (14, _), (15, _), (16, _), (17, _), (18, _), (19, _), (20, _), (21, _), (22, _), (23, _), (24, _)]) ⟨rfl, rfl, rfl, rfl, rfl, rfl, rfl, rfl, rfl, rfl, rfl, rfl, rfl, rfl, rfl, rfl, rfl, rfl, rfl, rfl, rfl, rfl, rfl, rfl, trivial⟩ ?_
            exact lw_ry (by first | exact hS9 | exact ST_t hS (by omega) (by omega) (by omega) (by omega)) hnb hvb hvb0 hn2 ry ht hF H hn13 ho hvb2 ⟨by omega, by omega, by omega, by first | (left; omega) | (right; rcases hw with z | z; (exfalso; have := z.1; omega); exact z.2)⟩
      · skip
        have hge2 := GA_e hG (i := o) (by omega) (by omega)
        have hk2 : X 22 (4 * o + 3) = 0 ∨ X 22 (4 * o + 3) = 1 := by
          rcases hge2.2.2.2 with z | z
          · exact Or.inr z.1
          · exact Or.inl z.1
        refine wq_aload_n (pc := 1122) dL_law_1122 rfl rfl ?_
        refine wq_iconst (pc := 1123) dL_law_1123 ?_
        refine wq_iload (pc := 1124) dL_law_1124 rfl ?_
        refine wq_imul (pc := 1126) dL_law_1126 ?_
        refine wq_iconst (pc := 1127) dL_law_1127 ?_
        refine wq_iadd (pc := 1128) dL_law_1128 ?_
        refine wq_ialdX (pc := 1129) dL_law_1129 (by with_reducible assumption) rfl (by omega) (by omega) ?_
        refine wq_aload_n (pc := 1130) dL_law_1130 rfl rfl ?_
        refine wq_iconst (pc := 1131) dL_law_1131 ?_
        refine wq_iload (pc := 1132) dL_law_1132 rfl ?_
        refine wq_imul (pc := 1134) dL_law_1134 ?_
        refine wq_iconst (pc := 1135) dL_law_1135 ?_
        refine wq_iadd (pc := 1136) dL_law_1136 ?_
        refine wq_ialdX (pc := 1137) dL_law_1137 (by with_reducible assumption) rfl (by omega) (by omega) ?_
        refine wq_icmp_eq (pc := 1138) (tgt := 1194) dL_law_1138 (by decide) (hr2 _) (hr2 _) (fun c7 => ?_) (fun c7 => ?_)
        · skip
          refine wq_iconst (pc := 1194) dL_law_1194 ?_
          refine wq_istore (pc := 1195) (L' := [(24, _), (23, _), (0, _), (1, _), (2, _), (3, _), (4, _), (5, _), (6, _), (7, _), (8, _), (10, _), (11, _), (12, _), (13, _), (14, _), (15, _), (16, _), (17, _), (18, _), (19, _), (20, _), (21, _), (22, _)]) dL_law_1195 rfl (by decide) ?_
          refine wq_sub1 (L' := [(0, _), (1, _), (2, _), (3, _), (4, _), (5, _), (6, _), (7, _), (8, _), (10, _), (11, _), (12, _), (13, _), (14, _), (15, _), (16, _), (17, _), (18, _), (19, _), (20, _), (21, _), (22, _), (23, _), (24, _)]) ⟨rfl, rfl, rfl, rfl, rfl, rfl, rfl, rfl, rfl, rfl, rfl, rfl, rfl, rfl, rfl, rfl, rfl, rfl, rfl, rfl, rfl, rfl, rfl, rfl, trivial⟩ ?_
          exact lw_rn (by first | exact hS9 | exact ST_t hS (by omega) (by omega) (by omega) (by omega)) hnb hvb hvb0 hn2 ry ht hF H hn13 ho hvb2 (by rintro ⟨q1, q2, q3, q4⟩; first | omega | (rcases q4 with z | z; omega; exact z (hw.resolve_right (fun y => by have := y.1; omega)).2))
        · skip
          refine wq_aload_n (pc := 1141) dL_law_1141 rfl rfl ?_
          refine wq_iconst (pc := 1142) dL_law_1142 ?_
          refine wq_iload (pc := 1143) dL_law_1143 rfl ?_
          refine wq_imul (pc := 1145) dL_law_1145 ?_
          refine wq_iconst (pc := 1146) dL_law_1146 ?_
          refine wq_iadd (pc := 1147) dL_law_1147 ?_
          refine wq_ialdX (pc := 1148) dL_law_1148 (by with_reducible assumption) rfl (by omega) (by omega) ?_
          refine wq_aload_n (pc := 1149) dL_law_1149 rfl rfl ?_
          refine wq_iconst (pc := 1150) dL_law_1150 ?_
          refine wq_iload (pc := 1151) dL_law_1151 rfl ?_
          refine wq_imul (pc := 1153) dL_law_1153 ?_
          refine wq_iconst (pc := 1154) dL_law_1154 ?_
          refine wq_iadd (pc := 1155) dL_law_1155 ?_
          refine wq_ialdX (pc := 1156) dL_law_1156 (by with_reducible assumption) rfl (by omega) (by omega) ?_
          refine wq_iadd (pc := 1157) dL_law_1157 ?_
          refine wq_if_ne (pc := 1158) (tgt := 1194) dL_law_1158 (by decide) (by unfold inR; omega) (fun c8 => ?_) (fun c8 => ?_)
          · skip
            refine wq_iconst (pc := 1194) dL_law_1194 ?_
            refine wq_istore (pc := 1195) (L' := [(24, _), (23, _), (0, _), (1, _), (2, _), (3, _), (4, _), (5, _), (6, _), (7, _), (8, _), (10, _), (11, _), (12, _), (13, _), (14, _), (15, _), (16, _), (17, _), (18, _), (19, _), (20, _), (21, _), (22, _)]) dL_law_1195 rfl (by decide) ?_
            refine wq_sub1 (L' := [(0, _), (1, _), (2, _), (3, _), (4, _), (5, _), (6, _), (7, _), (8, _), (10, _), (11, _), (12, _), (13, _), (14, _), (15, _), (16, _), (17, _), (18, _), (19, _), (20, _), (21, _), (22, _), (23, _), (24, _)]) ⟨rfl, rfl, rfl, rfl, rfl, rfl, rfl, rfl, rfl, rfl, rfl, rfl, rfl, rfl, rfl, rfl, rfl, rfl, rfl, rfl, rfl, rfl, rfl, rfl, trivial⟩ ?_
            exact lw_rn (by first | exact hS9 | exact ST_t hS (by omega) (by omega) (by omega) (by omega)) hnb hvb hvb0 hn2 ry ht hF H hn13 ho hvb2 (by rintro ⟨q1, q2, q3, q4⟩; first | omega | (rcases q4 with z | z; omega; exact z (hw.resolve_right (fun y => by have := y.1; omega)).2))
          · skip
            refine wq_aload_n (pc := 1161) dL_law_1161 rfl rfl ?_
            refine wq_iconst (pc := 1162) dL_law_1162 ?_
            refine wq_iload (pc := 1163) dL_law_1163 rfl ?_
            refine wq_imul (pc := 1165) dL_law_1165 ?_
            refine wq_iconst (pc := 1166) dL_law_1166 ?_
            refine wq_iadd (pc := 1167) dL_law_1167 ?_
            refine wq_ialdX (pc := 1168) dL_law_1168 (by with_reducible assumption) rfl (by omega) (by omega) ?_
            refine wq_if_eq (pc := 1169) (tgt := 1190) dL_law_1169 (by decide) (by first | (unfold inR; omega) | assumption | exact hr2 _ | exact hr3 _ | exact hr4 _) (fun c9 => ?_) (fun c9 => ?_)
            · skip
              refine wq_iconst (pc := 1190) dL_law_1190 ?_
              refine wq_goto (pc := 1191) (tgt := 1195) dL_law_1191 (by decide) ?_
              refine wq_istore (pc := 1195) (L' := [(24, _), (23, _), (0, _), (1, _), (2, _), (3, _), (4, _), (5, _), (6, _), (7, _), (8, _), (10, _), (11, _), (12, _), (13, _), (14, _), (15, _), (16, _), (17, _), (18, _), (19, _), (20, _), (21, _), (22, _)]) dL_law_1195 rfl (by decide) ?_
              refine wq_sub1 (L' := [(0, _), (1, _), (2, _), (3, _), (4, _), (5, _), (6, _), (7, _), (8, _), (10, _), (11, _), (12, _), (13, _), (14, _), (15, _), (16, _), (17, _), (18, _), (19, _), (20, _), (21, _), (22, _), (23, _), (24, _)]) ⟨rfl, rfl, rfl, rfl, rfl, rfl, rfl, rfl, rfl, rfl, rfl, rfl, rfl, rfl, rfl, rfl, rfl, rfl, rfl, rfl, rfl, rfl, rfl, rfl, trivial⟩ ?_
              exact lw_ry (by first | exact hS9 | exact ST_t hS (by omega) (by omega) (by omega) (by omega)) hnb hvb hvb0 hn2 ry ht hF H hn13 ho hvb2 ⟨by omega, by omega, by omega, by first | (left; omega) | (right; rcases hw with z | z; (exfalso; have := z.1; omega); exact z.2)⟩
            · skip
              refine wq_aload_n (pc := 1172) dL_law_1172 rfl rfl ?_
              refine wq_aload_n (pc := 1173) dL_law_1173 rfl rfl ?_
              refine wq_iload (pc := 1174) dL_law_1174 rfl ?_
              refine wq_aload_n (pc := 1176) dL_law_1176 rfl rfl ?_
              refine wq_iconst (pc := 1177) dL_law_1177 ?_
              refine wq_iload (pc := 1178) dL_law_1178 rfl ?_
              refine wq_imul (pc := 1180) dL_law_1180 ?_
              refine wq_iconst (pc := 1181) dL_law_1181 ?_
              refine wq_iadd (pc := 1182) dL_law_1182 ?_
              refine wq_ialdX (pc := 1183) dL_law_1183 (by with_reducible assumption) rfl (by omega) (by omega) ?_
              refine lS_4 (pc := 1184) dL_law_1184 (cw_L_135 _ rfl) ⟨by decide, by decide⟩ (Nat.le_of_ble_eq_true rfl) (sp_L_isInside (t := t + 31) (Wd_t hW (by omega)) (by rw [Wd_x hW (x := 21) (by omega)]; exact hn0) (by rw [Wd_x hW (x := 21) (by omega)]; exact hn15) (by rw [Wd_x hW (x := 22) (by omega)]; exact hr2) (by unfold inR; omega) (hr2 _) (fun w9 mm ee W9 hw => ?_))
              show wpL 1187 _ _ _ _ _
              rw [Wd_x hW (x := 22) (by omega), Wd_x hW (x := 21) (by omega)] at hw
              have hw9 : inR w9 := by unfold inR; omega
              have hS9 : ST N A nb vb (t + 30 + 1) X mm ee 0 := ⟨W9, hS.2⟩
              refine wq_if_ne (pc := 1187) (tgt := 1194) dL_law_1187 (by decide) hw9 (fun c11 => ?_) (fun c11 => ?_)
              · skip
                refine wq_iconst (pc := 1194) dL_law_1194 ?_
                refine wq_istore (pc := 1195) (L' := [(24, _), (23, _), (0, _), (1, _), (2, _), (3, _), (4, _), (5, _), (6, _), (7, _), (8, _), (10, _), (11, _), (12, _), (13, _), (14, _), (15, _), (16, _), (17, _), (18, _), (19, _), (20, _), (21, _), (22, _)]) dL_law_1195 rfl (by decide) ?_
                refine wq_sub1 (L' := [(0, _), (1, _), (2, _), (3, _), (4, _), (5, _), (6, _), (7, _), (8, _), (10, _), (11, _), (12, _), (13, _), (14, _), (15, _), (16, _), (17, _), (18, _), (19, _), (20, _), (21, _), (22, _), (23, _), (24, _)]) ⟨rfl, rfl, rfl, rfl, rfl, rfl, rfl, rfl, rfl, rfl, rfl, rfl, rfl, rfl, rfl, rfl, rfl, rfl, rfl, rfl, rfl, rfl, rfl, rfl, trivial⟩ ?_
                exact lw_rn (by first | exact hS9 | exact ST_t hS (by omega) (by omega) (by omega) (by omega)) hnb hvb hvb0 hn2 ry ht hF H hn13 ho hvb2 (by rintro ⟨q1, q2, q3, q4⟩; first | omega | (rcases q4 with z | z; omega; exact z (hw.resolve_right (fun y => by have := y.1; omega)).2))
              · skip
                refine wq_iconst (pc := 1190) dL_law_1190 ?_
                refine wq_goto (pc := 1191) (tgt := 1195) dL_law_1191 (by decide) ?_
                refine wq_istore (pc := 1195) (L' := [(24, _), (23, _), (0, _), (1, _), (2, _), (3, _), (4, _), (5, _), (6, _), (7, _), (8, _), (10, _), (11, _), (12, _), (13, _), (14, _), (15, _), (16, _), (17, _), (18, _), (19, _), (20, _), (21, _), (22, _)]) dL_law_1195 rfl (by decide) ?_
                refine wq_sub1 (L' := [(0, _), (1, _), (2, _), (3, _), (4, _), (5, _), (6, _), (7, _), (8, _), (10, _), (11, _), (12, _), (13, _), (14, _), (15, _), (16, _), (17, _), (18, _), (19, _), (20, _), (21, _), (22, _), (23, _), (24, _)]) ⟨rfl, rfl, rfl, rfl, rfl, rfl, rfl, rfl, rfl, rfl, rfl, rfl, rfl, rfl, rfl, rfl, rfl, rfl, rfl, rfl, rfl, rfl, rfl, rfl, trivial⟩ ?_
                exact lw_ry (by first | exact hS9 | exact ST_t hS (by omega) (by omega) (by omega) (by omega)) hnb hvb hvb0 hn2 ry ht hF H hn13 ho hvb2 ⟨by omega, by omega, by omega, by first | (left; omega) | (right; rcases hw with z | z; (exfalso; have := z.1; omega); exact z.2)⟩
