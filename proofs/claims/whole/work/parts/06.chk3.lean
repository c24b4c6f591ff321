section CHK2
set_option maxRecDepth 100000 in
set_option maxHeartbeats 4000000 in
theorem am_k119_0 : am_t119_0.all (am_gd 119) = true := by decide +kernel
set_option maxRecDepth 100000 in
set_option maxHeartbeats 4000000 in
theorem am_k119_1 : am_t119_1.all (am_gd 119) = true := by decide +kernel
set_option maxRecDepth 100000 in
set_option maxHeartbeats 4000000 in
theorem am_k119_2 : am_t119_2.all (am_gd 119) = true := by decide +kernel
set_option maxRecDepth 100000 in
set_option maxHeartbeats 4000000 in
theorem am_k119_3 : am_t119_3.all (am_gd 119) = true := by decide +kernel
set_option maxRecDepth 100000 in
set_option maxHeartbeats 4000000 in
theorem am_k119_4 : am_t119_4.all (am_gd 119) = true := by decide +kernel
set_option maxRecDepth 100000 in
set_option maxHeartbeats 4000000 in
theorem am_k119_5 : am_t119_5.all (am_gd 119) = true := by decide +kernel
set_option maxRecDepth 100000 in
set_option maxHeartbeats 4000000 in
theorem am_k119_6 : am_t119_6.all (am_gd 119) = true := by decide +kernel
set_option maxRecDepth 100000 in
set_option maxHeartbeats 4000000 in
theorem am_k119_7 : am_t119_7.all (am_gd 119) = true := by decide +kernel
set_option maxRecDepth 100000 in
set_option maxHeartbeats 4000000 in
theorem am_k119_8 : am_t119_8.all (am_gd 119) = true := by decide +kernel
set_option maxRecDepth 100000 in
set_option maxHeartbeats 4000000 in
theorem am_k119_9 : am_t119_9.all (am_gd 119) = true := by decide +kernel
set_option maxRecDepth 100000 in
set_option maxHeartbeats 4000000 in
theorem am_k119_10 : am_t119_10.all (am_gd 119) = true := by decide +kernel
set_option maxRecDepth 100000 in
set_option maxHeartbeats 4000000 in
theorem am_k119_11 : am_t119_11.all (am_gd 119) = true := by decide +kernel
set_option maxRecDepth 100000 in
set_option maxHeartbeats 4000000 in
theorem am_k119_12 : am_t119_12.all (am_gd 119) = true := by decide +kernel
set_option maxRecDepth 100000 in
set_option maxHeartbeats 4000000 in
theorem am_k119_13 : am_t119_13.all (am_gd 119) = true := by decide +kernel
set_option maxRecDepth 100000 in
set_option maxHeartbeats 4000000 in
theorem am_k119_14 : am_t119_14.all (am_gd 119) = true := by decide +kernel
set_option maxRecDepth 100000 in
set_option maxHeartbeats 4000000 in
theorem am_k119_15 : am_t119_15.all (am_gd 119) = true := by decide +kernel
set_option maxRecDepth 100000 in
set_option maxHeartbeats 4000000 in
theorem am_k119_16 : am_t119_16.all (am_gd 119) = true := by decide +kernel
set_option maxRecDepth 100000 in
set_option maxHeartbeats 4000000 in
theorem am_k119_17 : am_t119_17.all (am_gd 119) = true := by decide +kernel
set_option maxRecDepth 100000 in
set_option maxHeartbeats 4000000 in
theorem am_k119_18 : am_t119_18.all (am_gd 119) = true := by decide +kernel
set_option maxRecDepth 100000 in
set_option maxHeartbeats 4000000 in
theorem am_k119_19 : am_t119_19.all (am_gd 119) = true := by decide +kernel
theorem am_k119 : (am_tab 119).all (am_gd 119) = true := by
  show (am_t119_0 ++ (am_t119_1 ++ (am_t119_2 ++ (am_t119_3 ++ (am_t119_4 ++ (am_t119_5 ++ (am_t119_6 ++ (am_t119_7 ++ (am_t119_8 ++ (am_t119_9 ++ (am_t119_10 ++ (am_t119_11 ++ (am_t119_12 ++ (am_t119_13 ++ (am_t119_14 ++ (am_t119_15 ++ (am_t119_16 ++ (am_t119_17 ++ (am_t119_18 ++ (am_t119_19)))))))))))))))))))).all (am_gd 119) = true
  simp only [List.all_append, am_k119_0, am_k119_1, am_k119_2, am_k119_3, am_k119_4, am_k119_5, am_k119_6, am_k119_7, am_k119_8, am_k119_9, am_k119_10, am_k119_11, am_k119_12, am_k119_13, am_k119_14, am_k119_15, am_k119_16, am_k119_17, am_k119_18, am_k119_19, Bool.and_self]
theorem am_tab_out (n : Nat) : am_tab (n + 120) = [] := by
  unfold am_tab
  rw [List.getD_eq_getElem?_getD, List.getElem?_eq_none (by show 120 ≤ n + 120; omega)]
  rfl
set_option maxRecDepth 100000 in
theorem am_chk (y pc : Nat) (i : am_I) (h : am_ins y pc = some i) : decode (am_cd y) pc = .ok (am_enc i pc) ∧ am_lk y pc i = true := by
  match y, h with
  | 0, h => exact am_gd_of am_k0 h
  | 1, h => exact am_gd_of am_k1 h
  | 2, h => exact am_gd_of am_k2 h
  | 3, h => exact am_gd_of am_k3 h
  | 4, h => exact am_gd_of am_k4 h
  | 5, h => exact am_gd_of am_k5 h
  | 6, h => exact am_gd_of am_k6 h
  | 7, h => exact am_gd_of am_k7 h
  | 8, h => exact am_gd_of am_k8 h
  | 9, h => exact am_gd_of am_k9 h
  | 10, h => exact am_gd_of am_k10 h
  | 11, h => exact am_gd_of am_k11 h
  | 12, h => exact am_gd_of am_k12 h
  | 13, h => exact am_gd_of am_k13 h
  | 14, h => exact am_gd_of am_k14 h
  | 15, h => exact am_gd_of am_k15 h
  | 16, h => exact am_gd_of am_k16 h
  | 17, h => exact am_gd_of am_k17 h
  | 18, h => exact am_gd_of am_k18 h
  | 19, h => exact am_gd_of am_k19 h
  | 20, h => exact am_gd_of am_k20 h
  | 21, h => exact am_gd_of am_k21 h
  | 22, h => exact am_gd_of am_k22 h
  | 23, h => exact am_gd_of am_k23 h
  | 24, h => exact am_gd_of am_k24 h
  | 25, h => exact am_gd_of am_k25 h
  | 26, h => exact am_gd_of am_k26 h
  | 27, h => exact am_gd_of am_k27 h
  | 28, h => exact am_gd_of am_k28 h
  | 29, h => exact am_gd_of am_k29 h
  | 30, h => exact am_gd_of am_k30 h
  | 31, h => exact am_gd_of am_k31 h
  | 32, h => exact am_gd_of am_k32 h
  | 33, h => exact am_gd_of am_k33 h
  | 34, h => exact am_gd_of am_k34 h
  | 35, h => exact am_gd_of am_k35 h
  | 36, h => exact am_gd_of am_k36 h
  | 37, h => exact am_gd_of am_k37 h
  | 38, h => exact am_gd_of am_k38 h
  | 39, h => exact am_gd_of am_k39 h
  | 40, h => exact am_gd_of am_k40 h
  | 41, h => exact am_gd_of am_k41 h
  | 42, h => exact am_gd_of am_k42 h
  | 43, h => exact am_gd_of am_k43 h
  | 44, h => exact am_gd_of am_k44 h
  | 45, h => exact am_gd_of am_k45 h
  | 46, h => exact am_gd_of am_k46 h
  | 47, h => exact am_gd_of am_k47 h
  | 48, h => exact am_gd_of am_k48 h
  | 49, h => exact am_gd_of am_k49 h
  | 50, h => exact am_gd_of am_k50 h
  | 51, h => exact am_gd_of am_k51 h
  | 52, h => exact am_gd_of am_k52 h
  | 53, h => exact am_gd_of am_k53 h
  | 54, h => exact am_gd_of am_k54 h
  | 55, h => exact am_gd_of am_k55 h
  | 56, h => exact am_gd_of am_k56 h
  | 57, h => exact am_gd_of am_k57 h
  | 58, h => exact am_gd_of am_k58 h
  | 59, h => exact am_gd_of am_k59 h
  | 60, h => exact am_gd_of am_k60 h
  | 61, h => exact am_gd_of am_k61 h
  | 62, h => exact am_gd_of am_k62 h
  | 63, h => exact am_gd_of am_k63 h
  | 64, h => exact am_gd_of am_k64 h
  | 65, h => exact am_gd_of am_k65 h
  | 66, h => exact am_gd_of am_k66 h
  | 67, h => exact am_gd_of am_k67 h
  | 68, h => exact am_gd_of am_k68 h
  | 69, h => exact am_gd_of am_k69 h
  | 70, h => exact am_gd_of am_k70 h
  | 71, h => exact am_gd_of am_k71 h
  | 72, h => exact am_gd_of am_k72 h
  | 73, h => exact am_gd_of am_k73 h
  | 74, h => exact am_gd_of am_k74 h
  | 75, h => exact am_gd_of am_k75 h
  | 76, h => exact am_gd_of am_k76 h
  | 77, h => exact am_gd_of am_k77 h
  | 78, h => exact am_gd_of am_k78 h
  | 79, h => exact am_gd_of am_k79 h
  | 80, h => exact am_gd_of am_k80 h
  | 81, h => exact am_gd_of am_k81 h
  | 82, h => exact am_gd_of am_k82 h
  | 83, h => exact am_gd_of am_k83 h
  | 84, h => exact am_gd_of am_k84 h
  | 85, h => exact am_gd_of am_k85 h
  | 86, h => exact am_gd_of am_k86 h
  | 87, h => exact am_gd_of am_k87 h
  | 88, h => exact am_gd_of am_k88 h
  | 89, h => exact am_gd_of am_k89 h
  | 90, h => exact am_gd_of am_k90 h
  | 91, h => exact am_gd_of am_k91 h
  | 92, h => exact am_gd_of am_k92 h
  | 93, h => exact am_gd_of am_k93 h
  | 94, h => exact am_gd_of am_k94 h
  | 95, h => exact am_gd_of am_k95 h
  | 96, h => exact am_gd_of am_k96 h
  | 97, h => exact am_gd_of am_k97 h
  | 98, h => exact am_gd_of am_k98 h
  | 99, h => exact am_gd_of am_k99 h
  | 100, h => exact am_gd_of am_k100 h
  | 101, h => exact am_gd_of am_k101 h
  | 102, h => exact am_gd_of am_k102 h
  | 103, h => exact am_gd_of am_k103 h
  | 104, h => exact am_gd_of am_k104 h
  | 105, h => exact am_gd_of am_k105 h
  | 106, h => exact am_gd_of am_k106 h
  | 107, h => exact am_gd_of am_k107 h
  | 108, h => exact am_gd_of am_k108 h
  | 109, h => exact am_gd_of am_k109 h
  | 110, h => exact am_gd_of am_k110 h
  | 111, h => exact am_gd_of am_k111 h
  | 112, h => exact am_gd_of am_k112 h
  | 113, h => exact am_gd_of am_k113 h
  | 114, h => exact am_gd_of am_k114 h
  | 115, h => exact am_gd_of am_k115 h
  | 116, h => exact am_gd_of am_k116 h
  | 117, h => exact am_gd_of am_k117 h
  | 118, h => exact am_gd_of am_k118 h
  | 119, h => exact am_gd_of am_k119 h
  | n + 120, h => unfold am_ins at h; rw [am_tab_out] at h; cases h
set_option maxRecDepth 100000 in
theorem am_code (x : Nat) (h : x < am_N) : Jvm.Cond.code (am_nm x) (am_cd x) (am_mx x) (am_rt x) ∈ am_ws := by
  match x, h with
  | 0, _ => exact am_ws_code (List.mem_append_right _ (List.mem_of_getElem? (i := 11) rfl)) rfl
  | 1, _ => exact am_ws_code (List.mem_append_right _ (List.mem_of_getElem? (i := 48) rfl)) rfl
  | 2, _ => exact am_ws_code (List.mem_append_right _ (List.mem_of_getElem? (i := 56) rfl)) rfl
  | 3, _ => exact am_ws_code (List.mem_append_right _ (List.mem_of_getElem? (i := 119) rfl)) rfl
  | 4, _ => exact am_ws_code (List.mem_append_right _ (List.mem_of_getElem? (i := 193) rfl)) rfl
  | 5, _ => exact am_ws_code (List.mem_append_right _ (List.mem_of_getElem? (i := 197) rfl)) rfl
  | 6, _ => exact am_ws_code (List.mem_append_right _ (List.mem_of_getElem? (i := 201) rfl)) rfl
  | 7, _ => exact am_ws_code (List.mem_append_right _ (List.mem_of_getElem? (i := 205) rfl)) rfl
  | 8, _ => exact am_ws_code (List.mem_append_right _ (List.mem_of_getElem? (i := 212) rfl)) rfl
  | 9, _ => exact am_ws_code (List.mem_append_right _ (List.mem_of_getElem? (i := 216) rfl)) rfl
  | 10, _ => exact am_ws_code (List.mem_append_right _ (List.mem_of_getElem? (i := 224) rfl)) rfl
  | 11, _ => exact am_ws_code (List.mem_append_right _ (List.mem_of_getElem? (i := 252) rfl)) rfl
  | 12, _ => exact am_ws_code (List.mem_append_right _ (List.mem_of_getElem? (i := 256) rfl)) rfl
  | 13, _ => exact am_ws_code (List.mem_append_right _ (List.mem_of_getElem? (i := 264) rfl)) rfl
  | 14, _ => exact am_ws_code (List.mem_append_right _ (List.mem_of_getElem? (i := 268) rfl)) rfl
  | 15, _ => exact am_ws_code (List.mem_append_right _ (List.mem_of_getElem? (i := 276) rfl)) rfl
  | 16, _ => exact am_ws_code (List.mem_append_right _ (List.mem_of_getElem? (i := 280) rfl)) rfl
  | 17, _ => exact am_ws_code (List.mem_append_right _ (List.mem_of_getElem? (i := 284) rfl)) rfl
  | 18, _ => exact am_ws_code (List.mem_append_right _ (List.mem_of_getElem? (i := 308) rfl)) rfl
  | 19, _ => exact am_ws_code (List.mem_append_right _ (List.mem_of_getElem? (i := 312) rfl)) rfl
  | 20, _ => exact am_ws_code (List.mem_append_right _ (List.mem_of_getElem? (i := 323) rfl)) rfl
  | 21, _ => exact am_ws_code (List.mem_append_right _ (List.mem_of_getElem? (i := 327) rfl)) rfl
  | 22, _ => exact am_ws_code (List.mem_append_right _ (List.mem_of_getElem? (i := 331) rfl)) rfl
  | 23, _ => exact am_ws_code (List.mem_append_right _ (List.mem_of_getElem? (i := 335) rfl)) rfl
  | 24, _ => exact am_ws_code (List.mem_append_right _ (List.mem_of_getElem? (i := 339) rfl)) rfl
  | 25, _ => exact am_ws_code (List.mem_append_right _ (List.mem_of_getElem? (i := 343) rfl)) rfl
  | 26, _ => exact am_ws_code (List.mem_append_right _ (List.mem_of_getElem? (i := 347) rfl)) rfl
  | 27, _ => exact am_ws_code (List.mem_append_right _ (List.mem_of_getElem? (i := 352) rfl)) rfl
  | 28, _ => exact am_ws_code (List.mem_append_right _ (List.mem_of_getElem? (i := 356) rfl)) rfl
  | 29, _ => exact am_ws_code (List.mem_append_right _ (List.mem_of_getElem? (i := 367) rfl)) rfl
  | 30, _ => exact am_ws_code (List.mem_append_right _ (List.mem_of_getElem? (i := 123) rfl)) rfl
  | 31, _ => exact am_ws_code (List.mem_append_right _ (List.mem_of_getElem? (i := 142) rfl)) rfl
  | 32, _ => exact am_ws_code (List.mem_append_right _ (List.mem_of_getElem? (i := 135) rfl)) rfl
  | 33, _ => exact am_ws_code (List.mem_append_right _ (List.mem_of_getElem? (i := 157) rfl)) rfl
  | 34, _ => exact am_ws_code (List.mem_append_right _ (List.mem_of_getElem? (i := 177) rfl)) rfl
  | 35, _ => exact am_ws_code (List.mem_append_right _ (List.mem_of_getElem? (i := 185) rfl)) rfl
  | 36, _ => exact am_ws_code (List.mem_append_right _ (List.mem_of_getElem? (i := 139) rfl)) rfl
  | 37, _ => exact am_ws_code (List.mem_append_right _ (List.mem_of_getElem? (i := 208) rfl)) rfl
  | 38, _ => exact am_ws_code (List.mem_append_right _ (List.mem_of_getElem? (i := 300) rfl)) rfl
  | 39, _ => exact am_ws_code (List.mem_append_right _ (List.mem_of_getElem? (i := 304) rfl)) rfl
  | 40, _ => exact am_ws_code (List.mem_append_right _ (List.mem_of_getElem? (i := 296) rfl)) rfl
  | 41, _ => exact am_ws_code (List.mem_append_right _ (List.mem_of_getElem? (i := 319) rfl)) rfl
  | 42, _ => exact am_ws_code (List.mem_append_right _ (List.mem_of_getElem? (i := 288) rfl)) rfl
  | 43, _ => exact am_ws_code (List.mem_append_right _ (List.mem_of_getElem? (i := 371) rfl)) rfl
  | 44, _ => exact am_ws_code (List.mem_append_right _ (List.mem_of_getElem? (i := 375) rfl)) rfl
  | 45, _ => exact am_ws_code (List.mem_append_right _ (List.mem_of_getElem? (i := 381) rfl)) rfl
  | 46, _ => exact am_ws_code (List.mem_append_right _ (List.mem_of_getElem? (i := 445) rfl)) rfl
  | 47, _ => exact am_ws_code (List.mem_append_right _ (List.mem_of_getElem? (i := 461) rfl)) rfl
  | 48, _ => exact am_ws_code (List.mem_append_right _ (List.mem_of_getElem? (i := 457) rfl)) rfl
  | 49, _ => exact am_ws_code (List.mem_append_right _ (List.mem_of_getElem? (i := 465) rfl)) rfl
  | 50, _ => exact am_ws_code (List.mem_append_right _ (List.mem_of_getElem? (i := 481) rfl)) rfl
  | 51, _ => exact am_ws_code (List.mem_append_right _ (List.mem_of_getElem? (i := 473) rfl)) rfl
  | 52, _ => exact am_ws_code (List.mem_append_right _ (List.mem_of_getElem? (i := 541) rfl)) rfl
  | 53, _ => exact am_ws_code (List.mem_append_right _ (List.mem_of_getElem? (i := 497) rfl)) rfl
  | 54, _ => exact am_ws_code (List.mem_append_right _ (List.mem_of_getElem? (i := 469) rfl)) rfl
  | 55, _ => exact am_ws_code (List.mem_append_right _ (List.mem_of_getElem? (i := 493) rfl)) rfl
  | 56, _ => exact am_ws_code (List.mem_append_right _ (List.mem_of_getElem? (i := 501) rfl)) rfl
  | 57, _ => exact am_ws_code (List.mem_append_right _ (List.mem_of_getElem? (i := 477) rfl)) rfl
  | 58, _ => exact am_ws_code (List.mem_append_right _ (List.mem_of_getElem? (i := 485) rfl)) rfl
  | 59, _ => exact am_ws_code (List.mem_append_right _ (List.mem_of_getElem? (i := 545) rfl)) rfl
  | 60, _ => exact am_ws_code (List.mem_append_right _ (List.mem_of_getElem? (i := 537) rfl)) rfl
  | 61, _ => exact am_ws_code (List.mem_append_right _ (List.mem_of_getElem? (i := 585) rfl)) rfl
  | 62, _ => exact am_ws_code (List.mem_append_right _ (List.mem_of_getElem? (i := 449) rfl)) rfl
  | 63, _ => exact am_ws_code (List.mem_append_right _ (List.mem_of_getElem? (i := 489) rfl)) rfl
  | 64, _ => exact am_ws_code (List.mem_append_right _ (List.mem_of_getElem? (i := 453) rfl)) rfl
  | 65, _ => exact am_ws_code (List.mem_append_right _ (List.mem_of_getElem? (i := 505) rfl)) rfl
  | 66, _ => exact am_ws_code (List.mem_append_right _ (List.mem_of_getElem? (i := 509) rfl)) rfl
  | 67, _ => exact am_ws_code (List.mem_append_right _ (List.mem_of_getElem? (i := 513) rfl)) rfl
  | 68, _ => exact am_ws_code (List.mem_append_right _ (List.mem_of_getElem? (i := 517) rfl)) rfl
  | 69, _ => exact am_ws_code (List.mem_append_right _ (List.mem_of_getElem? (i := 521) rfl)) rfl
  | 70, _ => exact am_ws_code (List.mem_append_right _ (List.mem_of_getElem? (i := 525) rfl)) rfl
  | 71, _ => exact am_ws_code (List.mem_append_right _ (List.mem_of_getElem? (i := 533) rfl)) rfl
  | 72, _ => exact am_ws_code (List.mem_append_right _ (List.mem_of_getElem? (i := 529) rfl)) rfl
  | 73, _ => exact am_ws_code (List.mem_append_right _ (List.mem_of_getElem? (i := 549) rfl)) rfl
  | 74, _ => exact am_ws_code (List.mem_append_right _ (List.mem_of_getElem? (i := 553) rfl)) rfl
  | 75, _ => exact am_ws_code (List.mem_append_right _ (List.mem_of_getElem? (i := 557) rfl)) rfl
  | 76, _ => exact am_ws_code (List.mem_append_right _ (List.mem_of_getElem? (i := 561) rfl)) rfl
  | 77, _ => exact am_ws_code (List.mem_append_right _ (List.mem_of_getElem? (i := 565) rfl)) rfl
  | 78, _ => exact am_ws_code (List.mem_append_right _ (List.mem_of_getElem? (i := 569) rfl)) rfl
  | 79, _ => exact am_ws_code (List.mem_append_right _ (List.mem_of_getElem? (i := 573) rfl)) rfl
  | 80, _ => exact am_ws_code (List.mem_append_right _ (List.mem_of_getElem? (i := 577) rfl)) rfl
  | 81, _ => exact am_ws_code (List.mem_append_right _ (List.mem_of_getElem? (i := 581) rfl)) rfl
  | 82, _ => exact am_ws_code (List.mem_append_right _ (List.mem_of_getElem? (i := 589) rfl)) rfl
  | 83, _ => exact am_ws_code (List.mem_append_right _ (List.mem_of_getElem? (i := 593) rfl)) rfl
  | 84, _ => exact am_ws_code (List.mem_append_right _ (List.mem_of_getElem? (i := 597) rfl)) rfl
  | 85, _ => exact am_ws_code (List.mem_append_right _ (List.mem_of_getElem? (i := 601) rfl)) rfl
  | 86, _ => exact am_ws_code (List.mem_append_right _ (List.mem_of_getElem? (i := 605) rfl)) rfl
  | 87, _ => exact am_ws_code (List.mem_append_right _ (List.mem_of_getElem? (i := 609) rfl)) rfl
  | 88, _ => exact am_ws_code (List.mem_append_right _ (List.mem_of_getElem? (i := 613) rfl)) rfl
  | 89, _ => exact am_ws_code (List.mem_append_right _ (List.mem_of_getElem? (i := 617) rfl)) rfl
  | 90, _ => exact am_ws_code (List.mem_append_right _ (List.mem_of_getElem? (i := 621) rfl)) rfl
  | 91, _ => exact am_ws_code (List.mem_append_right _ (List.mem_of_getElem? (i := 625) rfl)) rfl
  | 92, _ => exact am_ws_code (List.mem_append_right _ (List.mem_of_getElem? (i := 21) rfl)) rfl
  | 93, _ => exact am_ws_code (List.mem_append_right _ (List.mem_of_getElem? (i := 52) rfl)) rfl
  | 94, _ => exact am_ws_code (List.mem_append_right _ (List.mem_of_getElem? (i := 146) rfl)) rfl
  | 95, _ => exact am_ws_code (List.mem_append_right _ (List.mem_of_getElem? (i := 360) rfl)) rfl
  | 96, _ => exact am_ws_code (List.mem_append_right _ (List.mem_of_getElem? (i := 227) rfl)) rfl
  | 97, _ => exact am_ws_code (List.mem_append_right _ (List.mem_of_getElem? (i := 315) rfl)) rfl
  | 98, _ => exact am_ws_code (List.mem_append_right _ (List.mem_of_getElem? (i := 259) rfl)) rfl
  | 99, _ => exact am_ws_code (List.mem_append_right _ (List.mem_of_getElem? (i := 230) rfl)) rfl
  | 100, _ => exact am_ws_code (List.mem_append_right _ (List.mem_of_getElem? (i := 233) rfl)) rfl
  | 101, _ => exact am_ws_code (List.mem_append_right _ (List.mem_of_getElem? (i := 242) rfl)) rfl
  | 102, _ => exact am_ws_code (List.mem_append_right _ (List.mem_of_getElem? (i := 248) rfl)) rfl
  | 103, _ => exact am_ws_code (List.mem_append_right _ (List.mem_of_getElem? (i := 245) rfl)) rfl
  | 104, _ => exact am_ws_code (List.mem_append_right _ (List.mem_of_getElem? (i := 60) rfl)) rfl
  | 105, _ => exact am_ws_code (List.mem_append_right _ (List.mem_of_getElem? (i := 131) rfl)) rfl
  | 106, _ => exact am_ws_code (List.mem_append_right _ (List.mem_of_getElem? (i := 127) rfl)) rfl
  | 107, _ => exact am_ws_code (List.mem_append_right _ (List.mem_of_getElem? (i := 272) rfl)) rfl
  | 108, _ => exact am_ws_code (List.mem_append_right _ (List.mem_of_getElem? (i := 165) rfl)) rfl
  | 109, _ => exact am_ws_code (List.mem_append_right _ (List.mem_of_getElem? (i := 161) rfl)) rfl
  | 110, _ => exact am_ws_code (List.mem_append_right _ (List.mem_of_getElem? (i := 169) rfl)) rfl
  | 111, _ => exact am_ws_code (List.mem_append_right _ (List.mem_of_getElem? (i := 220) rfl)) rfl
  | 112, _ => exact am_ws_code (List.mem_append_right _ (List.mem_of_getElem? (i := 181) rfl)) rfl
  | 113, _ => exact am_ws_code (List.mem_append_right _ (List.mem_of_getElem? (i := 173) rfl)) rfl
  | 114, _ => exact am_ws_code (List.mem_append_right _ (List.mem_of_getElem? (i := 237) rfl)) rfl
  | 115, _ => exact am_ws_code (List.mem_append_right _ (List.mem_of_getElem? (i := 292) rfl)) rfl
  | 116, _ => exact am_ws_code (List.mem_append_right _ (List.mem_of_getElem? (i := 189) rfl)) rfl
  | 117, _ => exact am_ws_code (List.mem_append_right _ (List.mem_of_getElem? (i := 153) rfl)) rfl
  | 118, _ => exact am_ws_code (List.mem_append_right _ (List.mem_of_getElem? (i := 149) rfl)) rfl
  | n + 119, h => exact absurd h (by show ¬ n + 119 < 119; omega)
theorem am_oi : Jvm.Cond.code Lib.objectInit ⟨#[0xb1]⟩ 1 none ∈ am_ws := am_ws_code (List.mem_append_right _ (List.mem_of_getElem? (i := 14) rfl)) rfl
theorem am_mi0 : Jvm.Cond.code Lib.Math.min.name Lib.Math.min.code 2 (some .int) ∈ am_ws := am_ws_code (List.mem_append_right _ (List.mem_of_getElem? (i := 363) rfl)) rfl
set_option maxRecDepth 100000 in
theorem am_clk : ∀ (c : Nat) (r : vw_C), am_cl[c]? = some r → (∀ w ∈ u_ws r.1 r.2.1 r.2.2, w ∈ am_ws) ∧ (∀ k, k < r.2.2 → parseFieldDescriptor (r.2.1 k).2.2.1 = some (am_tf c k)) ∧ (∀ a, a < r.2.2 → ∀ b, b < r.2.2 → a ≠ b → (r.2.1 a).2.1 ≠ (r.2.1 b).2.1) := by
  intro c r h
  match c, h with
  | 0, h => cases h; exact ⟨by decide +kernel, by decide +kernel, by decide +kernel⟩
  | 1, h => cases h; exact ⟨by decide +kernel, by decide +kernel, by decide +kernel⟩
  | 2, h => cases h; exact ⟨by decide +kernel, by decide +kernel, by decide +kernel⟩
  | 3, h => cases h; exact ⟨by decide +kernel, by decide +kernel, by decide +kernel⟩
  | n + 4, h => simp [am_cl] at h
theorem am_lv1 (y pc : Nat) (i : am_I) (_ : am_ins y pc = some i) : 1 ≤ am_lv y := by
  unfold am_lv
  by_cases h : y < am_mt.length
  · have h1 : am_mt.all (fun q => decide (1 ≤ q.2.2.2.2)) = true := by decide +kernel
    have h2 := List.all_eq_true.mp h1 (am_mt.getD y am_m0) (by rw [List.getD_eq_getElem?_getD, List.getElem?_eq_getElem h]; exact List.getElem_mem h)
    simpa using h2
  · rw [List.getD_eq_getElem?_getD, List.getElem?_eq_none (Nat.not_lt.mp h)]
    decide
end CHK2
