theorem nfl_X0_42 : g_FL RX0 42 7 0 true := ⟨_, rfl, by decide, rfl, g_mem 301 (by decide +kernel) (by decide +kernel)⟩
theorem nfl_X10_20 : g_FL RX10 20 10 2 true := ⟨_, rfl, by decide, rfl, g_mem 463 (by decide +kernel) (by decide +kernel)⟩
theorem nfl_X10_24 : g_FL RX10 24 10 3 true := ⟨_, rfl, by decide, rfl, g_mem 464 (by decide +kernel) (by decide +kernel)⟩
theorem nfl_X10_47 : g_FL RX10 47 10 7 true := ⟨_, rfl, by decide, rfl, g_mem 468 (by decide +kernel) (by decide +kernel)⟩
theorem nfl_X10_9 : g_FL RX10 9 10 0 true := ⟨_, rfl, by decide, rfl, g_mem 461 (by decide +kernel) (by decide +kernel)⟩
theorem nfl_X5_40 : g_FL RX5 40 5 3 true := ⟨_, rfl, by decide, rfl, g_mem 270 (by decide +kernel) (by decide +kernel)⟩
theorem nfl_X5_46 : g_FL RX5 46 9 13 true := ⟨_, rfl, by decide, rfl, g_mem 115 (by decide +kernel) (by decide +kernel)⟩
theorem nfl_X8_27 : g_FL RX8 27 8 6 true := ⟨_, rfl, by decide, rfl, g_mem 220 (by decide +kernel) (by decide +kernel)⟩
theorem nfp_X0_15 : g_FP RX0 15 0 1 .boolean := ⟨_, rfl, by decide, rfl, rfl, g_mem 359 (by decide +kernel) (by decide +kernel)⟩
theorem nfp_X0_19 : g_FP RX0 19 0 2 .int := ⟨_, rfl, by decide, rfl, rfl, g_mem 361 (by decide +kernel) (by decide +kernel)⟩
theorem nfp_X0_22 : g_FP RX0 22 0 5 .int := ⟨_, rfl, by decide, rfl, rfl, g_mem 365 (by decide +kernel) (by decide +kernel)⟩
theorem nfp_X0_29 : g_FP RX0 29 0 7 .int := ⟨_, rfl, by decide, rfl, rfl, g_mem 367 (by decide +kernel) (by decide +kernel)⟩
theorem nfp_X0_38 : g_FP RX0 38 0 3 (.object "PartsFerry$State") := ⟨_, rfl, by decide, rfl, rfl, g_mem 363 (by decide +kernel) (by decide +kernel)⟩
theorem nfp_X0_48 : g_FP RX0 48 0 4 (.object "PartsFerry$Told") := ⟨_, rfl, by decide, rfl, rfl, g_mem 364 (by decide +kernel) (by decide +kernel)⟩
theorem nfp_X0_9 : g_FP RX0 9 0 0 .int := ⟨_, rfl, by decide, rfl, rfl, g_mem 357 (by decide +kernel) (by decide +kernel)⟩
theorem nfp_X10_13 : g_FP RX10 13 10 1 .int := ⟨_, rfl, by decide, rfl, rfl, g_mem 462 (by decide +kernel) (by decide +kernel)⟩
theorem nfp_X10_20 : g_FP RX10 20 10 2 (.object "PartsFerry$Told") := ⟨_, rfl, by decide, rfl, rfl, g_mem 463 (by decide +kernel) (by decide +kernel)⟩
theorem nfp_X10_24 : g_FP RX10 24 10 3 (.object "PartsFerry$Told") := ⟨_, rfl, by decide, rfl, rfl, g_mem 464 (by decide +kernel) (by decide +kernel)⟩
theorem nfp_X10_36 : g_FP RX10 36 10 5 .int := ⟨_, rfl, by decide, rfl, rfl, g_mem 466 (by decide +kernel) (by decide +kernel)⟩
theorem nfp_X10_39 : g_FP RX10 39 10 6 .int := ⟨_, rfl, by decide, rfl, rfl, g_mem 467 (by decide +kernel) (by decide +kernel)⟩
theorem nfp_X10_54 : g_FP RX10 54 10 9 .boolean := ⟨_, rfl, by decide, rfl, rfl, g_mem 470 (by decide +kernel) (by decide +kernel)⟩
theorem nfp_X11_120 : g_FP RX11 120 11 54 .int := ⟨_, rfl, by decide, rfl, rfl, g_mem 1359 (by decide +kernel) (by decide +kernel)⟩
theorem nfp_X11_123 : g_FP RX11 123 11 55 .int := ⟨_, rfl, by decide, rfl, rfl, g_mem 1360 (by decide +kernel) (by decide +kernel)⟩
theorem nfp_X11_135 : g_FP RX11 135 11 66 .int := ⟨_, rfl, by decide, rfl, rfl, g_mem 1371 (by decide +kernel) (by decide +kernel)⟩
theorem nfp_X11_73 : g_FP RX11 73 11 33 .int := ⟨_, rfl, by decide, rfl, rfl, g_mem 1338 (by decide +kernel) (by decide +kernel)⟩
theorem nfp_X1_17 : g_FP RX1 17 1 1 .int := ⟨_, rfl, by decide, rfl, rfl, g_mem 243 (by decide +kernel) (by decide +kernel)⟩
theorem nfp_X1_21 : g_FP RX1 21 1 2 .int := ⟨_, rfl, by decide, rfl, rfl, g_mem 244 (by decide +kernel) (by decide +kernel)⟩
theorem nfp_X1_24 : g_FP RX1 24 1 3 .int := ⟨_, rfl, by decide, rfl, rfl, g_mem 245 (by decide +kernel) (by decide +kernel)⟩
theorem nfp_X1_27 : g_FP RX1 27 1 4 .boolean := ⟨_, rfl, by decide, rfl, rfl, g_mem 246 (by decide +kernel) (by decide +kernel)⟩
theorem nfp_X1_35 : g_FP RX1 35 1 6 (.object "PartsFerry$Laws") := ⟨_, rfl, by decide, rfl, rfl, g_mem 248 (by decide +kernel) (by decide +kernel)⟩
theorem nfp_X2_23 : g_FP RX2 23 2 3 .int := ⟨_, rfl, by decide, rfl, rfl, g_mem 51 (by decide +kernel) (by decide +kernel)⟩
theorem nfp_X3_9 : g_FP RX3 9 3 0 .int := ⟨_, rfl, by decide, rfl, rfl, g_mem 453 (by decide +kernel) (by decide +kernel)⟩
theorem nfp_X4_15 : g_FP RX4 15 4 1 .int := ⟨_, rfl, by decide, rfl, rfl, g_mem 397 (by decide +kernel) (by decide +kernel)⟩
theorem nfp_X4_22 : g_FP RX4 22 4 3 .boolean := ⟨_, rfl, by decide, rfl, rfl, g_mem 401 (by decide +kernel) (by decide +kernel)⟩
theorem nfp_X4_9 : g_FP RX4 9 4 0 .int := ⟨_, rfl, by decide, rfl, rfl, g_mem 395 (by decide +kernel) (by decide +kernel)⟩
theorem nfp_X5_15 : g_FP RX5 15 5 1 .int := ⟨_, rfl, by decide, rfl, rfl, g_mem 266 (by decide +kernel) (by decide +kernel)⟩
theorem nfp_X5_18 : g_FP RX5 18 5 2 .int := ⟨_, rfl, by decide, rfl, rfl, g_mem 268 (by decide +kernel) (by decide +kernel)⟩
theorem nfp_X5_21 : g_FP RX5 21 5 6 .boolean := ⟨_, rfl, by decide, rfl, rfl, g_mem 273 (by decide +kernel) (by decide +kernel)⟩
theorem nfp_X5_25 : g_FP RX5 25 5 7 .boolean := ⟨_, rfl, by decide, rfl, rfl, g_mem 274 (by decide +kernel) (by decide +kernel)⟩
theorem nfp_X5_28 : g_FP RX5 28 5 8 .boolean := ⟨_, rfl, by decide, rfl, rfl, g_mem 275 (by decide +kernel) (by decide +kernel)⟩
theorem nfp_X5_31 : g_FP RX5 31 5 5 (.object "PartsFerry$Told") := ⟨_, rfl, by decide, rfl, rfl, g_mem 272 (by decide +kernel) (by decide +kernel)⟩
theorem nfp_X5_9 : g_FP RX5 9 5 0 .int := ⟨_, rfl, by decide, rfl, rfl, g_mem 264 (by decide +kernel) (by decide +kernel)⟩
theorem nfp_X6_15 : g_FP RX6 15 6 1 .int := ⟨_, rfl, by decide, rfl, rfl, g_mem 422 (by decide +kernel) (by decide +kernel)⟩
theorem nfp_X6_9 : g_FP RX6 9 6 0 .int := ⟨_, rfl, by decide, rfl, rfl, g_mem 420 (by decide +kernel) (by decide +kernel)⟩
theorem nfp_X7_15 : g_FP RX7 15 7 2 .int := ⟨_, rfl, by decide, rfl, rfl, g_mem 307 (by decide +kernel) (by decide +kernel)⟩
theorem nfp_X7_18 : g_FP RX7 18 7 3 .int := ⟨_, rfl, by decide, rfl, rfl, g_mem 310 (by decide +kernel) (by decide +kernel)⟩
theorem nfp_X7_31 : g_FP RX7 31 7 7 .int := ⟨_, rfl, by decide, rfl, rfl, g_mem 322 (by decide +kernel) (by decide +kernel)⟩
theorem nfp_X7_40 : g_FP RX7 40 7 0 (.object "PartsFerry$Told") := ⟨_, rfl, by decide, rfl, rfl, g_mem 302 (by decide +kernel) (by decide +kernel)⟩
theorem nfp_X7_9 : g_FP RX7 9 7 1 .int := ⟨_, rfl, by decide, rfl, rfl, g_mem 303 (by decide +kernel) (by decide +kernel)⟩
theorem nfp_X8_11 : g_FP RX8 11 8 0 .int := ⟨_, rfl, by decide, rfl, rfl, g_mem 209 (by decide +kernel) (by decide +kernel)⟩
theorem nfp_X8_15 : g_FP RX8 15 8 1 .int := ⟨_, rfl, by decide, rfl, rfl, g_mem 212 (by decide +kernel) (by decide +kernel)⟩
theorem nfp_X8_18 : g_FP RX8 18 8 2 .int := ⟨_, rfl, by decide, rfl, rfl, g_mem 214 (by decide +kernel) (by decide +kernel)⟩
theorem nfp_X8_21 : g_FP RX8 21 8 4 .int := ⟨_, rfl, by decide, rfl, rfl, g_mem 218 (by decide +kernel) (by decide +kernel)⟩
theorem nfp_X8_24 : g_FP RX8 24 8 5 .int := ⟨_, rfl, by decide, rfl, rfl, g_mem 219 (by decide +kernel) (by decide +kernel)⟩
theorem nfp_X9_30 : g_FP RX9 30 9 6 .int := ⟨_, rfl, by decide, rfl, rfl, g_mem 91 (by decide +kernel) (by decide +kernel)⟩
theorem nfp_X9_37 : g_FP RX9 37 9 8 .int := ⟨_, rfl, by decide, rfl, rfl, g_mem 97 (by decide +kernel) (by decide +kernel)⟩
theorem nfp_X9_43 : g_FP RX9 43 9 10 .int := ⟨_, rfl, by decide, rfl, rfl, g_mem 104 (by decide +kernel) (by decide +kernel)⟩
theorem nfp_X9_46 : g_FP RX9 46 9 11 .int := ⟨_, rfl, by decide, rfl, rfl, g_mem 108 (by decide +kernel) (by decide +kernel)⟩
theorem nfp_X9_49 : g_FP RX9 49 9 12 .int := ⟨_, rfl, by decide, rfl, rfl, g_mem 112 (by decide +kernel) (by decide +kernel)⟩
theorem ff_X0_25 : n_FF RX0 25 0 6 := ⟨_, rfl, by decide, rfl, rfl, rfl, g_mem 366 (by decide +kernel) (by decide +kernel)⟩
theorem ff_X0_34 : n_FF RX0 34 0 8 := ⟨_, rfl, by decide, rfl, rfl, rfl, g_mem 368 (by decide +kernel) (by decide +kernel)⟩
theorem ff_X10_32 : n_FF RX10 32 10 4 := ⟨_, rfl, by decide, rfl, rfl, rfl, g_mem 465 (by decide +kernel) (by decide +kernel)⟩
theorem ff_X10_47 : n_FF RX10 47 10 7 := ⟨_, rfl, by decide, rfl, rfl, rfl, g_mem 468 (by decide +kernel) (by decide +kernel)⟩
theorem ff_X10_51 : n_FF RX10 51 10 8 := ⟨_, rfl, by decide, rfl, rfl, rfl, g_mem 469 (by decide +kernel) (by decide +kernel)⟩
theorem ff_X10_58 : n_FF RX10 58 10 10 := ⟨_, rfl, by decide, rfl, rfl, rfl, g_mem 471 (by decide +kernel) (by decide +kernel)⟩
theorem ff_X10_66 : n_FF RX10 66 10 11 := ⟨_, rfl, by decide, rfl, rfl, rfl, g_mem 472 (by decide +kernel) (by decide +kernel)⟩
theorem ff_X10_70 : n_FF RX10 70 10 12 := ⟨_, rfl, by decide, rfl, rfl, rfl, g_mem 473 (by decide +kernel) (by decide +kernel)⟩
theorem ff_X10_77 : n_FF RX10 77 10 13 := ⟨_, rfl, by decide, rfl, rfl, rfl, g_mem 474 (by decide +kernel) (by decide +kernel)⟩
theorem ff_X10_84 : n_FF RX10 84 10 14 := ⟨_, rfl, by decide, rfl, rfl, rfl, g_mem 475 (by decide +kernel) (by decide +kernel)⟩
theorem ff_X10_9 : n_FF RX10 9 10 0 := ⟨_, rfl, by decide, rfl, rfl, rfl, g_mem 461 (by decide +kernel) (by decide +kernel)⟩
theorem ff_X10_91 : n_FF RX10 91 10 15 := ⟨_, rfl, by decide, rfl, rfl, rfl, g_mem 476 (by decide +kernel) (by decide +kernel)⟩
theorem ff_X11_102 : n_FF RX11 102 11 45 := ⟨_, rfl, by decide, rfl, rfl, rfl, g_mem 1350 (by decide +kernel) (by decide +kernel)⟩
theorem ff_X11_105 : n_FF RX11 105 11 46 := ⟨_, rfl, by decide, rfl, rfl, rfl, g_mem 1351 (by decide +kernel) (by decide +kernel)⟩
theorem ff_X11_108 : n_FF RX11 108 11 47 := ⟨_, rfl, by decide, rfl, rfl, rfl, g_mem 1352 (by decide +kernel) (by decide +kernel)⟩
theorem ff_X11_111 : n_FF RX11 111 11 48 := ⟨_, rfl, by decide, rfl, rfl, rfl, g_mem 1353 (by decide +kernel) (by decide +kernel)⟩
theorem ff_X11_114 : n_FF RX11 114 11 49 := ⟨_, rfl, by decide, rfl, rfl, rfl, g_mem 1354 (by decide +kernel) (by decide +kernel)⟩
theorem ff_X11_117 : n_FF RX11 117 11 50 := ⟨_, rfl, by decide, rfl, rfl, rfl, g_mem 1355 (by decide +kernel) (by decide +kernel)⟩
theorem ff_X11_126 : n_FF RX11 126 11 59 := ⟨_, rfl, by decide, rfl, rfl, rfl, g_mem 1364 (by decide +kernel) (by decide +kernel)⟩
theorem ff_X11_129 : n_FF RX11 129 11 60 := ⟨_, rfl, by decide, rfl, rfl, rfl, g_mem 1365 (by decide +kernel) (by decide +kernel)⟩
theorem ff_X11_13 : n_FF RX11 13 11 3 := ⟨_, rfl, by decide, rfl, rfl, rfl, g_mem 1308 (by decide +kernel) (by decide +kernel)⟩
theorem ff_X11_132 : n_FF RX11 132 11 61 := ⟨_, rfl, by decide, rfl, rfl, rfl, g_mem 1366 (by decide +kernel) (by decide +kernel)⟩
theorem ff_X11_138 : n_FF RX11 138 11 67 := ⟨_, rfl, by decide, rfl, rfl, rfl, g_mem 1372 (by decide +kernel) (by decide +kernel)⟩
theorem ff_X11_141 : n_FF RX11 141 11 68 := ⟨_, rfl, by decide, rfl, rfl, rfl, g_mem 1373 (by decide +kernel) (by decide +kernel)⟩
theorem ff_X11_144 : n_FF RX11 144 11 69 := ⟨_, rfl, by decide, rfl, rfl, rfl, g_mem 1374 (by decide +kernel) (by decide +kernel)⟩
theorem ff_X11_148 : n_FF RX11 148 11 70 := ⟨_, rfl, by decide, rfl, rfl, rfl, g_mem 1375 (by decide +kernel) (by decide +kernel)⟩
theorem ff_X11_151 : n_FF RX11 151 11 71 := ⟨_, rfl, by decide, rfl, rfl, rfl, g_mem 1376 (by decide +kernel) (by decide +kernel)⟩
theorem ff_X11_16 : n_FF RX11 16 11 4 := ⟨_, rfl, by decide, rfl, rfl, rfl, g_mem 1309 (by decide +kernel) (by decide +kernel)⟩
theorem ff_X11_19 : n_FF RX11 19 11 5 := ⟨_, rfl, by decide, rfl, rfl, rfl, g_mem 1310 (by decide +kernel) (by decide +kernel)⟩
theorem ff_X11_22 : n_FF RX11 22 11 6 := ⟨_, rfl, by decide, rfl, rfl, rfl, g_mem 1311 (by decide +kernel) (by decide +kernel)⟩
theorem ff_X11_25 : n_FF RX11 25 11 7 := ⟨_, rfl, by decide, rfl, rfl, rfl, g_mem 1312 (by decide +kernel) (by decide +kernel)⟩
theorem ff_X11_28 : n_FF RX11 28 11 8 := ⟨_, rfl, by decide, rfl, rfl, rfl, g_mem 1313 (by decide +kernel) (by decide +kernel)⟩
theorem ff_X11_31 : n_FF RX11 31 11 9 := ⟨_, rfl, by decide, rfl, rfl, rfl, g_mem 1314 (by decide +kernel) (by decide +kernel)⟩
theorem ff_X11_34 : n_FF RX11 34 11 10 := ⟨_, rfl, by decide, rfl, rfl, rfl, g_mem 1315 (by decide +kernel) (by decide +kernel)⟩
theorem ff_X11_37 : n_FF RX11 37 11 11 := ⟨_, rfl, by decide, rfl, rfl, rfl, g_mem 1316 (by decide +kernel) (by decide +kernel)⟩
theorem ff_X11_40 : n_FF RX11 40 11 12 := ⟨_, rfl, by decide, rfl, rfl, rfl, g_mem 1317 (by decide +kernel) (by decide +kernel)⟩
theorem ff_X11_43 : n_FF RX11 43 11 13 := ⟨_, rfl, by decide, rfl, rfl, rfl, g_mem 1318 (by decide +kernel) (by decide +kernel)⟩
theorem ff_X11_46 : n_FF RX11 46 11 14 := ⟨_, rfl, by decide, rfl, rfl, rfl, g_mem 1319 (by decide +kernel) (by decide +kernel)⟩
theorem ff_X11_49 : n_FF RX11 49 11 15 := ⟨_, rfl, by decide, rfl, rfl, rfl, g_mem 1320 (by decide +kernel) (by decide +kernel)⟩
theorem ff_X11_52 : n_FF RX11 52 11 16 := ⟨_, rfl, by decide, rfl, rfl, rfl, g_mem 1321 (by decide +kernel) (by decide +kernel)⟩
theorem ff_X11_55 : n_FF RX11 55 11 17 := ⟨_, rfl, by decide, rfl, rfl, rfl, g_mem 1322 (by decide +kernel) (by decide +kernel)⟩
theorem ff_X11_58 : n_FF RX11 58 11 18 := ⟨_, rfl, by decide, rfl, rfl, rfl, g_mem 1323 (by decide +kernel) (by decide +kernel)⟩
theorem ff_X11_61 : n_FF RX11 61 11 19 := ⟨_, rfl, by decide, rfl, rfl, rfl, g_mem 1324 (by decide +kernel) (by decide +kernel)⟩
theorem ff_X11_64 : n_FF RX11 64 11 20 := ⟨_, rfl, by decide, rfl, rfl, rfl, g_mem 1325 (by decide +kernel) (by decide +kernel)⟩
theorem ff_X11_67 : n_FF RX11 67 11 21 := ⟨_, rfl, by decide, rfl, rfl, rfl, g_mem 1326 (by decide +kernel) (by decide +kernel)⟩
theorem ff_X11_7 : n_FF RX11 7 11 1 := ⟨_, rfl, by decide, rfl, rfl, rfl, g_mem 1306 (by decide +kernel) (by decide +kernel)⟩
theorem ff_X11_70 : n_FF RX11 70 11 22 := ⟨_, rfl, by decide, rfl, rfl, rfl, g_mem 1327 (by decide +kernel) (by decide +kernel)⟩
theorem ff_X11_77 : n_FF RX11 77 11 36 := ⟨_, rfl, by decide, rfl, rfl, rfl, g_mem 1341 (by decide +kernel) (by decide +kernel)⟩
theorem ff_X11_81 : n_FF RX11 81 11 37 := ⟨_, rfl, by decide, rfl, rfl, rfl, g_mem 1342 (by decide +kernel) (by decide +kernel)⟩
theorem ff_X11_84 : n_FF RX11 84 11 39 := ⟨_, rfl, by decide, rfl, rfl, rfl, g_mem 1344 (by decide +kernel) (by decide +kernel)⟩
theorem ff_X11_87 : n_FF RX11 87 11 40 := ⟨_, rfl, by decide, rfl, rfl, rfl, g_mem 1345 (by decide +kernel) (by decide +kernel)⟩
theorem ff_X11_90 : n_FF RX11 90 11 41 := ⟨_, rfl, by decide, rfl, rfl, rfl, g_mem 1346 (by decide +kernel) (by decide +kernel)⟩
theorem ff_X11_93 : n_FF RX11 93 11 42 := ⟨_, rfl, by decide, rfl, rfl, rfl, g_mem 1347 (by decide +kernel) (by decide +kernel)⟩
theorem ff_X11_96 : n_FF RX11 96 11 43 := ⟨_, rfl, by decide, rfl, rfl, rfl, g_mem 1348 (by decide +kernel) (by decide +kernel)⟩
theorem ff_X11_99 : n_FF RX11 99 11 44 := ⟨_, rfl, by decide, rfl, rfl, rfl, g_mem 1349 (by decide +kernel) (by decide +kernel)⟩
theorem ff_X1_13 : n_FF RX1 13 1 0 := ⟨_, rfl, by decide, rfl, rfl, rfl, g_mem 242 (by decide +kernel) (by decide +kernel)⟩
theorem ff_X1_31 : n_FF RX1 31 1 5 := ⟨_, rfl, by decide, rfl, rfl, rfl, g_mem 247 (by decide +kernel) (by decide +kernel)⟩
theorem ff_X2_13 : n_FF RX2 13 2 0 := ⟨_, rfl, by decide, rfl, rfl, rfl, g_mem 45 (by decide +kernel) (by decide +kernel)⟩
theorem ff_X2_17 : n_FF RX2 17 2 1 := ⟨_, rfl, by decide, rfl, rfl, rfl, g_mem 47 (by decide +kernel) (by decide +kernel)⟩
theorem ff_X2_20 : n_FF RX2 20 2 2 := ⟨_, rfl, by decide, rfl, rfl, rfl, g_mem 49 (by decide +kernel) (by decide +kernel)⟩
theorem ff_X2_27 : n_FF RX2 27 2 4 := ⟨_, rfl, by decide, rfl, rfl, rfl, g_mem 54 (by decide +kernel) (by decide +kernel)⟩
theorem ff_X3_15 : n_FF RX3 15 3 1 := ⟨_, rfl, by decide, rfl, rfl, rfl, g_mem 455 (by decide +kernel) (by decide +kernel)⟩
theorem ff_X4_18 : n_FF RX4 18 4 2 := ⟨_, rfl, by decide, rfl, rfl, rfl, g_mem 399 (by decide +kernel) (by decide +kernel)⟩
theorem ff_X4_26 : n_FF RX4 26 4 4 := ⟨_, rfl, by decide, rfl, rfl, rfl, g_mem 402 (by decide +kernel) (by decide +kernel)⟩
theorem ff_X5_40 : n_FF RX5 40 5 3 := ⟨_, rfl, by decide, rfl, rfl, rfl, g_mem 270 (by decide +kernel) (by decide +kernel)⟩
theorem ff_X5_55 : n_FF RX5 55 5 4 := ⟨_, rfl, by decide, rfl, rfl, rfl, g_mem 271 (by decide +kernel) (by decide +kernel)⟩
theorem ff_X6_18 : n_FF RX6 18 6 2 := ⟨_, rfl, by decide, rfl, rfl, rfl, g_mem 424 (by decide +kernel) (by decide +kernel)⟩
theorem ff_X6_22 : n_FF RX6 22 6 3 := ⟨_, rfl, by decide, rfl, rfl, rfl, g_mem 425 (by decide +kernel) (by decide +kernel)⟩
theorem ff_X6_25 : n_FF RX6 25 6 4 := ⟨_, rfl, by decide, rfl, rfl, rfl, g_mem 426 (by decide +kernel) (by decide +kernel)⟩
theorem ff_X6_28 : n_FF RX6 28 6 5 := ⟨_, rfl, by decide, rfl, rfl, rfl, g_mem 427 (by decide +kernel) (by decide +kernel)⟩
theorem ff_X6_32 : n_FF RX6 32 6 6 := ⟨_, rfl, by decide, rfl, rfl, rfl, g_mem 428 (by decide +kernel) (by decide +kernel)⟩
theorem ff_X6_35 : n_FF RX6 35 6 7 := ⟨_, rfl, by decide, rfl, rfl, rfl, g_mem 429 (by decide +kernel) (by decide +kernel)⟩
theorem ff_X7_21 : n_FF RX7 21 7 4 := ⟨_, rfl, by decide, rfl, rfl, rfl, g_mem 313 (by decide +kernel) (by decide +kernel)⟩
theorem ff_X7_25 : n_FF RX7 25 7 5 := ⟨_, rfl, by decide, rfl, rfl, rfl, g_mem 316 (by decide +kernel) (by decide +kernel)⟩
theorem ff_X7_28 : n_FF RX7 28 7 6 := ⟨_, rfl, by decide, rfl, rfl, rfl, g_mem 318 (by decide +kernel) (by decide +kernel)⟩
theorem ff_X7_34 : n_FF RX7 34 7 8 := ⟨_, rfl, by decide, rfl, rfl, rfl, g_mem 326 (by decide +kernel) (by decide +kernel)⟩
theorem ff_X7_37 : n_FF RX7 37 7 9 := ⟨_, rfl, by decide, rfl, rfl, rfl, g_mem 327 (by decide +kernel) (by decide +kernel)⟩
theorem ff_X8_27 : n_FF RX8 27 8 6 := ⟨_, rfl, by decide, rfl, rfl, rfl, g_mem 220 (by decide +kernel) (by decide +kernel)⟩
theorem ff_X8_31 : n_FF RX8 31 8 3 := ⟨_, rfl, by decide, rfl, rfl, rfl, g_mem 217 (by decide +kernel) (by decide +kernel)⟩
theorem ff_X9_15 : n_FF RX9 15 9 1 := ⟨_, rfl, by decide, rfl, rfl, rfl, g_mem 74 (by decide +kernel) (by decide +kernel)⟩
theorem ff_X9_18 : n_FF RX9 18 9 2 := ⟨_, rfl, by decide, rfl, rfl, rfl, g_mem 76 (by decide +kernel) (by decide +kernel)⟩
theorem ff_X9_21 : n_FF RX9 21 9 3 := ⟨_, rfl, by decide, rfl, rfl, rfl, g_mem 79 (by decide +kernel) (by decide +kernel)⟩
theorem ff_X9_24 : n_FF RX9 24 9 4 := ⟨_, rfl, by decide, rfl, rfl, rfl, g_mem 83 (by decide +kernel) (by decide +kernel)⟩
theorem ff_X9_27 : n_FF RX9 27 9 5 := ⟨_, rfl, by decide, rfl, rfl, rfl, g_mem 87 (by decide +kernel) (by decide +kernel)⟩
theorem ff_X9_34 : n_FF RX9 34 9 7 := ⟨_, rfl, by decide, rfl, rfl, rfl, g_mem 94 (by decide +kernel) (by decide +kernel)⟩
theorem ff_X9_40 : n_FF RX9 40 9 9 := ⟨_, rfl, by decide, rfl, rfl, rfl, g_mem 102 (by decide +kernel) (by decide +kernel)⟩
theorem ff_X9_55 : n_FF RX9 55 9 13 := ⟨_, rfl, by decide, rfl, rfl, rfl, g_mem 116 (by decide +kernel) (by decide +kernel)⟩
theorem ff_X9_9 : n_FF RX9 9 9 0 := ⟨_, rfl, by decide, rfl, rfl, rfl, g_mem 69 (by decide +kernel) (by decide +kernel)⟩
theorem kl_X10_17 : Cond.classLink RX10 17 RX9 ∈ g_ws ∧ Cond.instantiable RX9 14 ∈ g_ws ∧ Cond.initialized RX9 ∈ g_ws := ⟨g_mem 33 (by decide +kernel) (by decide +kernel), g_mem 34 (by decide +kernel) (by decide +kernel), g_mem 2 (by decide +kernel) (by decide +kernel)⟩
theorem kl_X10_27 : Cond.classLink RX10 27 RX5 ∈ g_ws ∧ Cond.instantiable RX5 9 ∈ g_ws ∧ Cond.initialized RX5 ∈ g_ws := ⟨g_mem 148 (by decide +kernel) (by decide +kernel), g_mem 149 (by decide +kernel) (by decide +kernel), g_mem 4 (by decide +kernel) (by decide +kernel)⟩
theorem kl_X10_42 : Cond.classLink RX10 42 RX7 ∈ g_ws ∧ Cond.instantiable RX7 10 ∈ g_ws ∧ Cond.initialized RX7 ∈ g_ws := ⟨g_mem 295 (by decide +kernel) (by decide +kernel), g_mem 296 (by decide +kernel) (by decide +kernel), g_mem 11 (by decide +kernel) (by decide +kernel)⟩
theorem kl_X10_61 : Cond.classLink RX10 61 RX0 ∈ g_ws ∧ Cond.instantiable RX0 9 ∈ g_ws ∧ Cond.initialized RX0 ∈ g_ws := ⟨g_mem 351 (by decide +kernel) (by decide +kernel), g_mem 352 (by decide +kernel) (by decide +kernel), g_mem 12 (by decide +kernel) (by decide +kernel)⟩
theorem kl_X10_74 : Cond.classLink RX10 74 RX4 ∈ g_ws ∧ Cond.instantiable RX4 5 ∈ g_ws ∧ Cond.initialized RX4 ∈ g_ws := ⟨g_mem 389 (by decide +kernel) (by decide +kernel), g_mem 390 (by decide +kernel) (by decide +kernel), g_mem 13 (by decide +kernel) (by decide +kernel)⟩
theorem kl_X10_81 : Cond.classLink RX10 81 RX6 ∈ g_ws ∧ Cond.instantiable RX6 8 ∈ g_ws ∧ Cond.initialized RX6 ∈ g_ws := ⟨g_mem 414 (by decide +kernel) (by decide +kernel), g_mem 415 (by decide +kernel) (by decide +kernel), g_mem 14 (by decide +kernel) (by decide +kernel)⟩
theorem kl_X10_88 : Cond.classLink RX10 88 RX3 ∈ g_ws ∧ Cond.instantiable RX3 2 ∈ g_ws ∧ Cond.initialized RX3 ∈ g_ws := ⟨g_mem 447 (by decide +kernel) (by decide +kernel), g_mem 448 (by decide +kernel) (by decide +kernel), g_mem 15 (by decide +kernel) (by decide +kernel)⟩
theorem kl_X5_35 : Cond.classLink RX5 35 RX8 ∈ g_ws ∧ Cond.instantiable RX8 7 ∈ g_ws ∧ Cond.initialized RX8 ∈ g_ws := ⟨g_mem 154 (by decide +kernel) (by decide +kernel), g_mem 155 (by decide +kernel) (by decide +kernel), g_mem 5 (by decide +kernel) (by decide +kernel)⟩
theorem kl_X5_44 : Cond.classLink RX5 44 RX1 ∈ g_ws ∧ Cond.instantiable RX1 7 ∈ g_ws ∧ Cond.initialized RX1 ∈ g_ws := ⟨g_mem 236 (by decide +kernel) (by decide +kernel), g_mem 237 (by decide +kernel) (by decide +kernel), g_mem 10 (by decide +kernel) (by decide +kernel)⟩
theorem kl_X9_52 : Cond.classLink RX9 52 RX2 ∈ g_ws ∧ Cond.instantiable RX2 5 ∈ g_ws ∧ Cond.initialized RX2 ∈ g_ws := ⟨g_mem 39 (by decide +kernel) (by decide +kernel), g_mem 40 (by decide +kernel) (by decide +kernel), g_mem 3 (by decide +kernel) (by decide +kernel)⟩
theorem oi_X0_3 : Cond.methodLink RX0 3 objectInit ∈ g_ws := g_mem 356 (by decide +kernel) (by decide +kernel)
theorem oi_X10_1 : Cond.methodLink RX10 1 objectInit ∈ g_ws := g_mem 30 (by decide +kernel) (by decide +kernel)
theorem oi_X11_1 : Cond.methodLink RX11 1 objectInit ∈ g_ws := g_mem 1296 (by decide +kernel) (by decide +kernel)
theorem oi_X1_3 : Cond.methodLink RX1 3 objectInit ∈ g_ws := g_mem 241 (by decide +kernel) (by decide +kernel)
theorem oi_X2_5 : Cond.methodLink RX2 5 objectInit ∈ g_ws := g_mem 44 (by decide +kernel) (by decide +kernel)
theorem oi_X3_3 : Cond.methodLink RX3 3 objectInit ∈ g_ws := g_mem 452 (by decide +kernel) (by decide +kernel)
theorem oi_X4_3 : Cond.methodLink RX4 3 objectInit ∈ g_ws := g_mem 394 (by decide +kernel) (by decide +kernel)
theorem oi_X5_3 : Cond.methodLink RX5 3 objectInit ∈ g_ws := g_mem 153 (by decide +kernel) (by decide +kernel)
theorem oi_X6_3 : Cond.methodLink RX6 3 objectInit ∈ g_ws := g_mem 419 (by decide +kernel) (by decide +kernel)
theorem oi_X7_3 : Cond.methodLink RX7 3 objectInit ∈ g_ws := g_mem 300 (by decide +kernel) (by decide +kernel)
theorem oi_X8_3 : Cond.methodLink RX8 3 objectInit ∈ g_ws := g_mem 159 (by decide +kernel) (by decide +kernel)
theorem oi_X9_3 : Cond.methodLink RX9 3 objectInit ∈ g_ws := g_mem 38 (by decide +kernel) (by decide +kernel)
theorem oi_inst : Cond.instanceMethod objectInit ∈ g_ws := g_mem 31 (by decide +kernel) (by decide +kernel)
theorem oi_code : Cond.code objectInit ⟨#[0xb1]⟩ 1 none ∈ g_ws := g_mem 32 (by decide +kernel) (by decide +kernel)
theorem ka_int : Cond.arrayClass .int ∈ g_ws := g_mem 67 (by decide +kernel) (by decide +kernel)
theorem ka_long : Cond.arrayClass .long ∈ g_ws := g_mem 68 (by decide +kernel) (by decide +kernel)
theorem ka_boolean : Cond.arrayClass .boolean ∈ g_ws := g_mem 388 (by decide +kernel) (by decide +kernel)
theorem ka_byte : Cond.arrayClass .byte ∈ g_ws := g_mem 66 (by decide +kernel) (by decide +kernel)
theorem ci_X10_29 : g_CB RX10 29 yX5_init cX5_init 3 none 2 ∧ yX5_init.name = "<init>" ∧ Cond.instanceMethod yX5_init ∈ g_ws := ⟨⟨g_mem 150 (by decide +kernel) (by decide +kernel), g_mem 4 (by decide +kernel) (by decide +kernel), g_mem 152 (by decide +kernel) (by decide +kernel), by decide +kernel, by decide⟩, rfl, g_mem 151 (by decide +kernel) (by decide +kernel)⟩
theorem ci_X10_44 : g_CB RX10 44 yX7_init cX7_init 2 none 1 ∧ yX7_init.name = "<init>" ∧ Cond.instanceMethod yX7_init ∈ g_ws := ⟨⟨g_mem 297 (by decide +kernel) (by decide +kernel), g_mem 11 (by decide +kernel) (by decide +kernel), g_mem 299 (by decide +kernel) (by decide +kernel), by decide +kernel, by decide⟩, rfl, g_mem 298 (by decide +kernel) (by decide +kernel)⟩
theorem ci_X10_63 : g_CB RX10 63 yX0_init cX0_init 2 none 1 ∧ yX0_init.name = "<init>" ∧ Cond.instanceMethod yX0_init ∈ g_ws := ⟨⟨g_mem 353 (by decide +kernel) (by decide +kernel), g_mem 12 (by decide +kernel) (by decide +kernel), g_mem 355 (by decide +kernel) (by decide +kernel), by decide +kernel, by decide⟩, rfl, g_mem 354 (by decide +kernel) (by decide +kernel)⟩
theorem ci_X5_37 : g_CB RX5 37 yX8_init cX8_init 7 none 1 ∧ yX8_init.name = "<init>" ∧ Cond.instanceMethod yX8_init ∈ g_ws := ⟨⟨g_mem 156 (by decide +kernel) (by decide +kernel), g_mem 5 (by decide +kernel) (by decide +kernel), g_mem 158 (by decide +kernel) (by decide +kernel), by decide +kernel, by decide⟩, rfl, g_mem 157 (by decide +kernel) (by decide +kernel)⟩
theorem ci_X5_52 : g_CB RX5 52 yX1_init cX1_init 3 none 2 ∧ yX1_init.name = "<init>" ∧ Cond.instanceMethod yX1_init ∈ g_ws := ⟨⟨g_mem 238 (by decide +kernel) (by decide +kernel), g_mem 10 (by decide +kernel) (by decide +kernel), g_mem 240 (by decide +kernel) (by decide +kernel), by decide +kernel, by decide⟩, rfl, g_mem 239 (by decide +kernel) (by decide +kernel)⟩
theorem cn_X2_init : (Cond.initialized yX2_init.cls ∈ g_ws ∧ Cond.code yX2_init cX2_init 1 none ∈ g_ws ∧ (yX2_init.cls ≠ "java/lang/invoke/MethodHandle" ∧ yX2_init.cls ≠ "java/lang/invoke/VarHandle" ∧ (parseMethodDescriptor yX2_init.desc).map (fun d => d.parameters.length) = some 0)) ∧ yX2_init.name = "<init>" ∧ Cond.instanceMethod yX2_init ∈ g_ws := ⟨⟨g_mem 3 (by decide +kernel) (by decide +kernel), g_mem 43 (by decide +kernel) (by decide +kernel), by decide +kernel⟩, rfl, g_mem 42 (by decide +kernel) (by decide +kernel)⟩
theorem cn_X3_init : (Cond.initialized yX3_init.cls ∈ g_ws ∧ Cond.code yX3_init cX3_init 1 none ∈ g_ws ∧ (yX3_init.cls ≠ "java/lang/invoke/MethodHandle" ∧ yX3_init.cls ≠ "java/lang/invoke/VarHandle" ∧ (parseMethodDescriptor yX3_init.desc).map (fun d => d.parameters.length) = some 0)) ∧ yX3_init.name = "<init>" ∧ Cond.instanceMethod yX3_init ∈ g_ws := ⟨⟨g_mem 15 (by decide +kernel) (by decide +kernel), g_mem 451 (by decide +kernel) (by decide +kernel), by decide +kernel⟩, rfl, g_mem 450 (by decide +kernel) (by decide +kernel)⟩
theorem cn_X4_init : (Cond.initialized yX4_init.cls ∈ g_ws ∧ Cond.code yX4_init cX4_init 1 none ∈ g_ws ∧ (yX4_init.cls ≠ "java/lang/invoke/MethodHandle" ∧ yX4_init.cls ≠ "java/lang/invoke/VarHandle" ∧ (parseMethodDescriptor yX4_init.desc).map (fun d => d.parameters.length) = some 0)) ∧ yX4_init.name = "<init>" ∧ Cond.instanceMethod yX4_init ∈ g_ws := ⟨⟨g_mem 13 (by decide +kernel) (by decide +kernel), g_mem 393 (by decide +kernel) (by decide +kernel), by decide +kernel⟩, rfl, g_mem 392 (by decide +kernel) (by decide +kernel)⟩
theorem cn_X6_init : (Cond.initialized yX6_init.cls ∈ g_ws ∧ Cond.code yX6_init cX6_init 1 none ∈ g_ws ∧ (yX6_init.cls ≠ "java/lang/invoke/MethodHandle" ∧ yX6_init.cls ≠ "java/lang/invoke/VarHandle" ∧ (parseMethodDescriptor yX6_init.desc).map (fun d => d.parameters.length) = some 0)) ∧ yX6_init.name = "<init>" ∧ Cond.instanceMethod yX6_init ∈ g_ws := ⟨⟨g_mem 14 (by decide +kernel) (by decide +kernel), g_mem 418 (by decide +kernel) (by decide +kernel), by decide +kernel⟩, rfl, g_mem 417 (by decide +kernel) (by decide +kernel)⟩
theorem cn_X9_init : (Cond.initialized yX9_init.cls ∈ g_ws ∧ Cond.code yX9_init cX9_init 1 none ∈ g_ws ∧ (yX9_init.cls ≠ "java/lang/invoke/MethodHandle" ∧ yX9_init.cls ≠ "java/lang/invoke/VarHandle" ∧ (parseMethodDescriptor yX9_init.desc).map (fun d => d.parameters.length) = some 0)) ∧ yX9_init.name = "<init>" ∧ Cond.instanceMethod yX9_init ∈ g_ws := ⟨⟨g_mem 2 (by decide +kernel) (by decide +kernel), g_mem 37 (by decide +kernel) (by decide +kernel), by decide +kernel⟩, rfl, g_mem 36 (by decide +kernel) (by decide +kernel)⟩
theorem sc_lenT : g_CX "PartsFerry$Tokens" 37 yJ0_length_8abf5 cJ0_length_8abf5 1 (some .int) 0 := ⟨⟨g_mem 161 (by decide +kernel) (by decide +kernel), g_mem 6 (by decide +kernel) (by decide +kernel), g_mem 164 (by decide +kernel) (by decide +kernel), by decide +kernel, by decide⟩, g_mem 162 (by decide +kernel) (by decide +kernel), g_mem 163 (by decide +kernel) (by decide +kernel)⟩
theorem sc_chrT : g_CX "PartsFerry$Tokens" 42 yJ0_charAt_5068e cJ0_charAt_5068e 2 (some .char) 1 := ⟨⟨g_mem 171 (by decide +kernel) (by decide +kernel), g_mem 6 (by decide +kernel) (by decide +kernel), g_mem 174 (by decide +kernel) (by decide +kernel), by decide +kernel, by decide⟩, g_mem 172 (by decide +kernel) (by decide +kernel), g_mem 173 (by decide +kernel) (by decide +kernel)⟩
theorem dX2_init_0 : decode cX2_init 0 = .ok (.aload_n 0, 1) := by decide +kernel
theorem dX2_init_1 : decode cX2_init 1 = .ok (.invokespecial 5, 3) := by decide +kernel
theorem dX2_init_4 : decode cX2_init 4 = .ok (.aload_n 0, 1) := by decide +kernel
theorem dX2_init_5 : decode cX2_init 5 = .ok (.bipush 64, 2) := by decide +kernel
theorem dX2_init_7 : decode cX2_init 7 = .ok (.newarray .int, 2) := by decide +kernel
theorem dX2_init_9 : decode cX2_init 9 = .ok (.putfield 13, 3) := by decide +kernel
theorem dX2_init_12 : decode cX2_init 12 = .ok (.aload_n 0, 1) := by decide +kernel
theorem dX2_init_13 : decode cX2_init 13 = .ok (.iconst 3, 1) := by decide +kernel
theorem dX2_init_14 : decode cX2_init 14 = .ok (.newarray .int, 2) := by decide +kernel
theorem dX2_init_16 : decode cX2_init 16 = .ok (.putfield 17, 3) := by decide +kernel
theorem dX2_init_19 : decode cX2_init 19 = .ok (.aload_n 0, 1) := by decide +kernel
theorem dX2_init_20 : decode cX2_init 20 = .ok (.iconst 3, 1) := by decide +kernel
theorem dX2_init_21 : decode cX2_init 21 = .ok (.newarray .int, 2) := by decide +kernel
theorem dX2_init_23 : decode cX2_init 23 = .ok (.putfield 20, 3) := by decide +kernel
theorem dX2_init_26 : decode cX2_init 26 = .ok (.aload_n 0, 1) := by decide +kernel
theorem dX2_init_27 : decode cX2_init 27 = .ok (.iconst 0, 1) := by decide +kernel
theorem dX2_init_28 : decode cX2_init 28 = .ok (.putfield 23, 3) := by decide +kernel
theorem dX2_init_31 : decode cX2_init 31 = .ok (.aload_n 0, 1) := by decide +kernel
theorem dX2_init_32 : decode cX2_init 32 = .ok (.bipush 64, 2) := by decide +kernel
theorem dX2_init_34 : decode cX2_init 34 = .ok (.newarray .long, 2) := by decide +kernel
theorem dX2_init_36 : decode cX2_init 36 = .ok (.putfield 27, 3) := by decide +kernel
theorem dX2_init_39 : decode cX2_init 39 = .ok (.return_, 1) := by decide +kernel
theorem dX9_init_0 : decode cX9_init 0 = .ok (.aload_n 0, 1) := by decide +kernel
theorem dX9_init_1 : decode cX9_init 1 = .ok (.invokespecial 3, 3) := by decide +kernel
theorem dX9_init_4 : decode cX9_init 4 = .ok (.aload_n 0, 1) := by decide +kernel
theorem dX9_init_5 : decode cX9_init 5 = .ok (.iconst 3, 1) := by decide +kernel
theorem dX9_init_6 : decode cX9_init 6 = .ok (.newarray .int, 2) := by decide +kernel
theorem dX9_init_8 : decode cX9_init 8 = .ok (.putfield 9, 3) := by decide +kernel
theorem dX9_init_11 : decode cX9_init 11 = .ok (.aload_n 0, 1) := by decide +kernel
theorem dX9_init_12 : decode cX9_init 12 = .ok (.bipush 15, 2) := by decide +kernel
theorem dX9_init_14 : decode cX9_init 14 = .ok (.newarray .int, 2) := by decide +kernel
theorem dX9_init_16 : decode cX9_init 16 = .ok (.putfield 15, 3) := by decide +kernel
theorem dX9_init_19 : decode cX9_init 19 = .ok (.aload_n 0, 1) := by decide +kernel
theorem dX9_init_20 : decode cX9_init 20 = .ok (.iconst 5, 1) := by decide +kernel
theorem dX9_init_21 : decode cX9_init 21 = .ok (.newarray .int, 2) := by decide +kernel
theorem dX9_init_23 : decode cX9_init 23 = .ok (.putfield 18, 3) := by decide +kernel
theorem dX9_init_26 : decode cX9_init 26 = .ok (.aload_n 0, 1) := by decide +kernel
theorem dX9_init_27 : decode cX9_init 27 = .ok (.iconst 5, 1) := by decide +kernel
theorem dX9_init_28 : decode cX9_init 28 = .ok (.newarray .int, 2) := by decide +kernel
theorem dX9_init_30 : decode cX9_init 30 = .ok (.putfield 21, 3) := by decide +kernel
theorem dX9_init_33 : decode cX9_init 33 = .ok (.aload_n 0, 1) := by decide +kernel
theorem dX9_init_34 : decode cX9_init 34 = .ok (.iconst 5, 1) := by decide +kernel
theorem dX9_init_35 : decode cX9_init 35 = .ok (.newarray .int, 2) := by decide +kernel
theorem dX9_init_37 : decode cX9_init 37 = .ok (.putfield 24, 3) := by decide +kernel
theorem dX9_init_40 : decode cX9_init 40 = .ok (.aload_n 0, 1) := by decide +kernel
theorem dX9_init_41 : decode cX9_init 41 = .ok (.iconst 5, 1) := by decide +kernel
theorem dX9_init_42 : decode cX9_init 42 = .ok (.newarray .int, 2) := by decide +kernel
theorem dX9_init_44 : decode cX9_init 44 = .ok (.putfield 27, 3) := by decide +kernel
theorem dX9_init_47 : decode cX9_init 47 = .ok (.aload_n 0, 1) := by decide +kernel
theorem dX9_init_48 : decode cX9_init 48 = .ok (.iconst 0, 1) := by decide +kernel
theorem dX9_init_49 : decode cX9_init 49 = .ok (.putfield 30, 3) := by decide +kernel
theorem dX9_init_52 : decode cX9_init 52 = .ok (.aload_n 0, 1) := by decide +kernel
theorem dX9_init_53 : decode cX9_init 53 = .ok (.bipush 48, 2) := by decide +kernel
theorem dX9_init_55 : decode cX9_init 55 = .ok (.newarray .int, 2) := by decide +kernel
theorem dX9_init_57 : decode cX9_init 57 = .ok (.putfield 34, 3) := by decide +kernel
theorem dX9_init_60 : decode cX9_init 60 = .ok (.aload_n 0, 1) := by decide +kernel
theorem dX9_init_61 : decode cX9_init 61 = .ok (.iconst 0, 1) := by decide +kernel
theorem dX9_init_62 : decode cX9_init 62 = .ok (.putfield 37, 3) := by decide +kernel
theorem dX9_init_65 : decode cX9_init 65 = .ok (.aload_n 0, 1) := by decide +kernel
theorem dX9_init_66 : decode cX9_init 66 = .ok (.bipush 40, 2) := by decide +kernel
theorem dX9_init_68 : decode cX9_init 68 = .ok (.newarray .int, 2) := by decide +kernel
theorem dX9_init_70 : decode cX9_init 70 = .ok (.putfield 40, 3) := by decide +kernel
theorem dX9_init_73 : decode cX9_init 73 = .ok (.aload_n 0, 1) := by decide +kernel
theorem dX9_init_74 : decode cX9_init 74 = .ok (.bipush 9, 2) := by decide +kernel
theorem dX9_init_76 : decode cX9_init 76 = .ok (.putfield 43, 3) := by decide +kernel
theorem dX9_init_79 : decode cX9_init 79 = .ok (.aload_n 0, 1) := by decide +kernel
theorem dX9_init_80 : decode cX9_init 80 = .ok (.iconst 0, 1) := by decide +kernel
theorem dX9_init_81 : decode cX9_init 81 = .ok (.putfield 46, 3) := by decide +kernel
theorem dX9_init_84 : decode cX9_init 84 = .ok (.aload_n 0, 1) := by decide +kernel
theorem dX9_init_85 : decode cX9_init 85 = .ok (.iconst 0, 1) := by decide +kernel
theorem dX9_init_86 : decode cX9_init 86 = .ok (.putfield 49, 3) := by decide +kernel
theorem dX9_init_89 : decode cX9_init 89 = .ok (.aload_n 0, 1) := by decide +kernel
theorem dX9_init_90 : decode cX9_init 90 = .ok (.new 52, 3) := by decide +kernel
theorem dX9_init_93 : decode cX9_init 93 = .ok (.dup, 1) := by decide +kernel
theorem dX9_init_94 : decode cX9_init 94 = .ok (.invokespecial 54, 3) := by decide +kernel
theorem dX9_init_97 : decode cX9_init 97 = .ok (.putfield 55, 3) := by decide +kernel
theorem dX9_init_100 : decode cX9_init 100 = .ok (.return_, 1) := by decide +kernel
theorem dX8_init_0 : decode cX8_init 0 = .ok (.aload_n 0, 1) := by decide +kernel
theorem dX8_init_1 : decode cX8_init 1 = .ok (.invokespecial 3, 3) := by decide +kernel
theorem dX8_init_4 : decode cX8_init 4 = .ok (.aload_n 0, 1) := by decide +kernel
theorem dX8_init_5 : decode cX8_init 5 = .ok (.iconst 0, 1) := by decide +kernel
theorem dX8_init_6 : decode cX8_init 6 = .ok (.putfield 11, 3) := by decide +kernel
theorem dX8_init_9 : decode cX8_init 9 = .ok (.aload_n 0, 1) := by decide +kernel
theorem dX8_init_10 : decode cX8_init 10 = .ok (.iconst 0, 1) := by decide +kernel
theorem dX8_init_11 : decode cX8_init 11 = .ok (.putfield 15, 3) := by decide +kernel
theorem dX8_init_14 : decode cX8_init 14 = .ok (.aload_n 0, 1) := by decide +kernel
theorem dX8_init_15 : decode cX8_init 15 = .ok (.iconst 0, 1) := by decide +kernel
theorem dX8_init_16 : decode cX8_init 16 = .ok (.putfield 18, 3) := by decide +kernel
theorem dX8_init_19 : decode cX8_init 19 = .ok (.aload_n 0, 1) := by decide +kernel
theorem dX8_init_20 : decode cX8_init 20 = .ok (.iconst 0, 1) := by decide +kernel
theorem dX8_init_21 : decode cX8_init 21 = .ok (.putfield 21, 3) := by decide +kernel
theorem dX8_init_24 : decode cX8_init 24 = .ok (.aload_n 0, 1) := by decide +kernel
theorem dX8_init_25 : decode cX8_init 25 = .ok (.iconst 0, 1) := by decide +kernel
theorem dX8_init_26 : decode cX8_init 26 = .ok (.putfield 24, 3) := by decide +kernel
theorem dX8_init_29 : decode cX8_init 29 = .ok (.aload_n 0, 1) := by decide +kernel
theorem dX8_init_30 : decode cX8_init 30 = .ok (.bipush 22, 2) := by decide +kernel
theorem dX8_init_32 : decode cX8_init 32 = .ok (.newarray .int, 2) := by decide +kernel
theorem dX8_init_34 : decode cX8_init 34 = .ok (.putfield 27, 3) := by decide +kernel
theorem dX8_init_37 : decode cX8_init 37 = .ok (.aload_n 0, 1) := by decide +kernel
theorem dX8_init_38 : decode cX8_init 38 = .ok (.aload_n 1, 1) := by decide +kernel
theorem dX8_init_39 : decode cX8_init 39 = .ok (.putfield 31, 3) := by decide +kernel
theorem dX8_init_42 : decode cX8_init 42 = .ok (.iconst 0, 1) := by decide +kernel
theorem dX8_init_43 : decode cX8_init 43 = .ok (.istore_n 2, 1) := by decide +kernel
theorem dX8_init_44 : decode cX8_init 44 = .ok (.iconst 0, 1) := by decide +kernel
theorem dX8_init_45 : decode cX8_init 45 = .ok (.istore_n 3, 1) := by decide +kernel
theorem dX8_init_46 : decode cX8_init 46 = .ok (.bipush 25, 2) := by decide +kernel
theorem dX8_init_48 : decode cX8_init 48 = .ok (.istore 4, 2) := by decide +kernel
theorem dX8_init_50 : decode cX8_init 50 = .ok (.iconst 0, 1) := by decide +kernel
theorem dX8_init_51 : decode cX8_init 51 = .ok (.istore 5, 2) := by decide +kernel
theorem dX8_init_53 : decode cX8_init 53 = .ok (.iload 5, 2) := by decide +kernel
theorem dX8_init_55 : decode cX8_init 55 = .ok (.ldc 35, 2) := by decide +kernel
theorem dX8_init_57 : decode cX8_init 57 = .ok (.invokevirtual 37, 3) := by decide +kernel
theorem dX8_init_60 : decode cX8_init 60 = .ok (.if_icmp .ge 66, 3) := by decide +kernel
theorem dX8_init_63 : decode cX8_init 63 = .ok (.iload_n 2, 1) := by decide +kernel
theorem dX8_init_64 : decode cX8_init 64 = .ok (.bipush 22, 2) := by decide +kernel
theorem dX8_init_66 : decode cX8_init 66 = .ok (.if_icmp .ge 60, 3) := by decide +kernel
theorem dX8_init_69 : decode cX8_init 69 = .ok (.ldc 35, 2) := by decide +kernel
theorem dX8_init_71 : decode cX8_init 71 = .ok (.iload 5, 2) := by decide +kernel
theorem dX8_init_73 : decode cX8_init 73 = .ok (.invokevirtual 42, 3) := by decide +kernel
theorem dX8_init_76 : decode cX8_init 76 = .ok (.istore 6, 2) := by decide +kernel
theorem dX8_init_78 : decode cX8_init 78 = .ok (.iload 6, 2) := by decide +kernel
theorem dX8_init_80 : decode cX8_init 80 = .ok (.bipush 32, 2) := by decide +kernel
theorem dX8_init_82 : decode cX8_init 82 = .ok (.if_icmp .ne 22, 3) := by decide +kernel
theorem dX8_init_85 : decode cX8_init 85 = .ok (.aload_n 0, 1) := by decide +kernel
theorem dX8_init_86 : decode cX8_init 86 = .ok (.getfield 27, 3) := by decide +kernel
theorem dX8_init_89 : decode cX8_init 89 = .ok (.iload_n 2, 1) := by decide +kernel
theorem dX8_init_90 : decode cX8_init 90 = .ok (.iload_n 3, 1) := by decide +kernel
theorem dX8_init_91 : decode cX8_init 91 = .ok (.iastore, 1) := by decide +kernel
theorem dX8_init_92 : decode cX8_init 92 = .ok (.iinc 2 1, 3) := by decide +kernel
theorem dX8_init_95 : decode cX8_init 95 = .ok (.iconst 0, 1) := by decide +kernel
theorem dX8_init_96 : decode cX8_init 96 = .ok (.istore_n 3, 1) := by decide +kernel
theorem dX8_init_97 : decode cX8_init 97 = .ok (.bipush 25, 2) := by decide +kernel
theorem dX8_init_99 : decode cX8_init 99 = .ok (.istore 4, 2) := by decide +kernel
theorem dX8_init_101 : decode cX8_init 101 = .ok (.goto 19, 3) := by decide +kernel
theorem dX8_init_104 : decode cX8_init 104 = .ok (.iload_n 3, 1) := by decide +kernel
theorem dX8_init_105 : decode cX8_init 105 = .ok (.iload 6, 2) := by decide +kernel
theorem dX8_init_107 : decode cX8_init 107 = .ok (.bipush 97, 2) := by decide +kernel
theorem dX8_init_109 : decode cX8_init 109 = .ok (.isub, 1) := by decide +kernel
theorem dX8_init_110 : decode cX8_init 110 = .ok (.iconst 1, 1) := by decide +kernel
theorem dX8_init_111 : decode cX8_init 111 = .ok (.iadd, 1) := by decide +kernel
theorem dX8_init_112 : decode cX8_init 112 = .ok (.iload 4, 2) := by decide +kernel
theorem dX8_init_114 : decode cX8_init 114 = .ok (.ishl, 1) := by decide +kernel
theorem dX8_init_115 : decode cX8_init 115 = .ok (.ior, 1) := by decide +kernel
theorem dX8_init_116 : decode cX8_init 116 = .ok (.istore_n 3, 1) := by decide +kernel
theorem dX8_init_117 : decode cX8_init 117 = .ok (.iinc 4 (-5), 3) := by decide +kernel
theorem dX8_init_120 : decode cX8_init 120 = .ok (.iinc 5 1, 3) := by decide +kernel
theorem dX8_init_123 : decode cX8_init 123 = .ok (.goto (-70), 3) := by decide +kernel
theorem dX8_init_126 : decode cX8_init 126 = .ok (.return_, 1) := by decide +kernel
theorem dX1_init_0 : decode cX1_init 0 = .ok (.aload_n 0, 1) := by decide +kernel
theorem dX1_init_1 : decode cX1_init 1 = .ok (.invokespecial 3, 3) := by decide +kernel
theorem dX1_init_4 : decode cX1_init 4 = .ok (.aload_n 0, 1) := by decide +kernel
theorem dX1_init_5 : decode cX1_init 5 = .ok (.bipush 72, 2) := by decide +kernel
theorem dX1_init_7 : decode cX1_init 7 = .ok (.newarray .int, 2) := by decide +kernel
theorem dX1_init_9 : decode cX1_init 9 = .ok (.putfield 13, 3) := by decide +kernel
theorem dX1_init_12 : decode cX1_init 12 = .ok (.aload_n 0, 1) := by decide +kernel
theorem dX1_init_13 : decode cX1_init 13 = .ok (.iconst 0, 1) := by decide +kernel
theorem dX1_init_14 : decode cX1_init 14 = .ok (.putfield 17, 3) := by decide +kernel
theorem dX1_init_17 : decode cX1_init 17 = .ok (.aload_n 0, 1) := by decide +kernel
theorem dX1_init_18 : decode cX1_init 18 = .ok (.iconst 0, 1) := by decide +kernel
theorem dX1_init_19 : decode cX1_init 19 = .ok (.putfield 21, 3) := by decide +kernel
theorem dX1_init_22 : decode cX1_init 22 = .ok (.aload_n 0, 1) := by decide +kernel
theorem dX1_init_23 : decode cX1_init 23 = .ok (.iconst 0, 1) := by decide +kernel
theorem dX1_init_24 : decode cX1_init 24 = .ok (.putfield 24, 3) := by decide +kernel
theorem dX1_init_27 : decode cX1_init 27 = .ok (.aload_n 0, 1) := by decide +kernel
theorem dX1_init_28 : decode cX1_init 28 = .ok (.iconst 1, 1) := by decide +kernel
theorem dX1_init_29 : decode cX1_init 29 = .ok (.putfield 27, 3) := by decide +kernel
theorem dX1_init_32 : decode cX1_init 32 = .ok (.aload_n 0, 1) := by decide +kernel
theorem dX1_init_33 : decode cX1_init 33 = .ok (.aload_n 1, 1) := by decide +kernel
theorem dX1_init_34 : decode cX1_init 34 = .ok (.putfield 31, 3) := by decide +kernel
theorem dX1_init_37 : decode cX1_init 37 = .ok (.aload_n 0, 1) := by decide +kernel
theorem dX1_init_38 : decode cX1_init 38 = .ok (.aload_n 2, 1) := by decide +kernel
theorem dX1_init_39 : decode cX1_init 39 = .ok (.putfield 35, 3) := by decide +kernel
theorem dX1_init_42 : decode cX1_init 42 = .ok (.return_, 1) := by decide +kernel
theorem dX5_init_0 : decode cX5_init 0 = .ok (.aload_n 0, 1) := by decide +kernel
theorem dX5_init_1 : decode cX5_init 1 = .ok (.invokespecial 3, 3) := by decide +kernel
theorem dX5_init_4 : decode cX5_init 4 = .ok (.aload_n 0, 1) := by decide +kernel
theorem dX5_init_5 : decode cX5_init 5 = .ok (.iconst 0, 1) := by decide +kernel
theorem dX5_init_6 : decode cX5_init 6 = .ok (.putfield 9, 3) := by decide +kernel
theorem dX5_init_9 : decode cX5_init 9 = .ok (.aload_n 0, 1) := by decide +kernel
theorem dX5_init_10 : decode cX5_init 10 = .ok (.iconst (-1), 1) := by decide +kernel
theorem dX5_init_11 : decode cX5_init 11 = .ok (.putfield 15, 3) := by decide +kernel
theorem dX5_init_14 : decode cX5_init 14 = .ok (.aload_n 0, 1) := by decide +kernel
theorem dX5_init_15 : decode cX5_init 15 = .ok (.iconst 0, 1) := by decide +kernel
theorem dX5_init_16 : decode cX5_init 16 = .ok (.putfield 18, 3) := by decide +kernel
theorem dX5_init_19 : decode cX5_init 19 = .ok (.aload_n 0, 1) := by decide +kernel
theorem dX5_init_20 : decode cX5_init 20 = .ok (.iconst 0, 1) := by decide +kernel
theorem dX5_init_21 : decode cX5_init 21 = .ok (.putfield 21, 3) := by decide +kernel
theorem dX5_init_24 : decode cX5_init 24 = .ok (.aload_n 0, 1) := by decide +kernel
theorem dX5_init_25 : decode cX5_init 25 = .ok (.iconst 0, 1) := by decide +kernel
theorem dX5_init_26 : decode cX5_init 26 = .ok (.putfield 25, 3) := by decide +kernel
theorem dX5_init_29 : decode cX5_init 29 = .ok (.aload_n 0, 1) := by decide +kernel
theorem dX5_init_30 : decode cX5_init 30 = .ok (.iconst 0, 1) := by decide +kernel
theorem dX5_init_31 : decode cX5_init 31 = .ok (.putfield 28, 3) := by decide +kernel
theorem dX5_init_34 : decode cX5_init 34 = .ok (.aload_n 0, 1) := by decide +kernel
theorem dX5_init_35 : decode cX5_init 35 = .ok (.aload_n 2, 1) := by decide +kernel
theorem dX5_init_36 : decode cX5_init 36 = .ok (.putfield 31, 3) := by decide +kernel
theorem dX5_init_39 : decode cX5_init 39 = .ok (.aload_n 0, 1) := by decide +kernel
theorem dX5_init_40 : decode cX5_init 40 = .ok (.new 35, 3) := by decide +kernel
theorem dX5_init_43 : decode cX5_init 43 = .ok (.dup, 1) := by decide +kernel
theorem dX5_init_44 : decode cX5_init 44 = .ok (.aload_n 1, 1) := by decide +kernel
theorem dX5_init_45 : decode cX5_init 45 = .ok (.invokespecial 37, 3) := by decide +kernel
theorem dX5_init_48 : decode cX5_init 48 = .ok (.putfield 40, 3) := by decide +kernel
theorem dX5_init_51 : decode cX5_init 51 = .ok (.aload_n 0, 1) := by decide +kernel
theorem dX5_init_52 : decode cX5_init 52 = .ok (.new 44, 3) := by decide +kernel
theorem dX5_init_55 : decode cX5_init 55 = .ok (.dup, 1) := by decide +kernel
theorem dX5_init_56 : decode cX5_init 56 = .ok (.aload_n 0, 1) := by decide +kernel
theorem dX5_init_57 : decode cX5_init 57 = .ok (.getfield 40, 3) := by decide +kernel
theorem dX5_init_60 : decode cX5_init 60 = .ok (.aload_n 2, 1) := by decide +kernel
theorem dX5_init_61 : decode cX5_init 61 = .ok (.getfield 46, 3) := by decide +kernel
theorem dX5_init_64 : decode cX5_init 64 = .ok (.invokespecial 52, 3) := by decide +kernel
theorem dX5_init_67 : decode cX5_init 67 = .ok (.putfield 55, 3) := by decide +kernel
theorem dX5_init_70 : decode cX5_init 70 = .ok (.return_, 1) := by decide +kernel
theorem dX7_init_0 : decode cX7_init 0 = .ok (.aload_n 0, 1) := by decide +kernel
theorem dX7_init_1 : decode cX7_init 1 = .ok (.invokespecial 3, 3) := by decide +kernel
theorem dX7_init_4 : decode cX7_init 4 = .ok (.aload_n 0, 1) := by decide +kernel
theorem dX7_init_5 : decode cX7_init 5 = .ok (.iconst 0, 1) := by decide +kernel
theorem dX7_init_6 : decode cX7_init 6 = .ok (.putfield 9, 3) := by decide +kernel
theorem dX7_init_9 : decode cX7_init 9 = .ok (.aload_n 0, 1) := by decide +kernel
theorem dX7_init_10 : decode cX7_init 10 = .ok (.iconst 0, 1) := by decide +kernel
theorem dX7_init_11 : decode cX7_init 11 = .ok (.putfield 15, 3) := by decide +kernel
theorem dX7_init_14 : decode cX7_init 14 = .ok (.aload_n 0, 1) := by decide +kernel
theorem dX7_init_15 : decode cX7_init 15 = .ok (.iconst 0, 1) := by decide +kernel
theorem dX7_init_16 : decode cX7_init 16 = .ok (.putfield 18, 3) := by decide +kernel
theorem dX7_init_19 : decode cX7_init 19 = .ok (.aload_n 0, 1) := by decide +kernel
theorem dX7_init_20 : decode cX7_init 20 = .ok (.iconst 5, 1) := by decide +kernel
theorem dX7_init_21 : decode cX7_init 21 = .ok (.newarray .int, 2) := by decide +kernel
theorem dX7_init_23 : decode cX7_init 23 = .ok (.putfield 21, 3) := by decide +kernel
theorem dX7_init_26 : decode cX7_init 26 = .ok (.aload_n 0, 1) := by decide +kernel
theorem dX7_init_27 : decode cX7_init 27 = .ok (.bipush 25, 2) := by decide +kernel
theorem dX7_init_29 : decode cX7_init 29 = .ok (.newarray .int, 2) := by decide +kernel
theorem dX7_init_31 : decode cX7_init 31 = .ok (.putfield 25, 3) := by decide +kernel
theorem dX7_init_34 : decode cX7_init 34 = .ok (.aload_n 0, 1) := by decide +kernel
theorem dX7_init_35 : decode cX7_init 35 = .ok (.bipush 25, 2) := by decide +kernel
theorem dX7_init_37 : decode cX7_init 37 = .ok (.newarray .int, 2) := by decide +kernel
theorem dX7_init_39 : decode cX7_init 39 = .ok (.putfield 28, 3) := by decide +kernel
theorem dX7_init_42 : decode cX7_init 42 = .ok (.aload_n 0, 1) := by decide +kernel
theorem dX7_init_43 : decode cX7_init 43 = .ok (.iconst 0, 1) := by decide +kernel
theorem dX7_init_44 : decode cX7_init 44 = .ok (.putfield 31, 3) := by decide +kernel
theorem dX7_init_47 : decode cX7_init 47 = .ok (.aload_n 0, 1) := by decide +kernel
theorem dX7_init_48 : decode cX7_init 48 = .ok (.bipush 48, 2) := by decide +kernel
theorem dX7_init_50 : decode cX7_init 50 = .ok (.newarray .int, 2) := by decide +kernel
theorem dX7_init_52 : decode cX7_init 52 = .ok (.putfield 34, 3) := by decide +kernel
theorem dX7_init_55 : decode cX7_init 55 = .ok (.aload_n 0, 1) := by decide +kernel
theorem dX7_init_56 : decode cX7_init 56 = .ok (.bipush 8, 2) := by decide +kernel
theorem dX7_init_58 : decode cX7_init 58 = .ok (.newarray .int, 2) := by decide +kernel
theorem dX7_init_60 : decode cX7_init 60 = .ok (.putfield 37, 3) := by decide +kernel
theorem dX7_init_63 : decode cX7_init 63 = .ok (.aload_n 0, 1) := by decide +kernel
theorem dX7_init_64 : decode cX7_init 64 = .ok (.aload_n 1, 1) := by decide +kernel
theorem dX7_init_65 : decode cX7_init 65 = .ok (.putfield 40, 3) := by decide +kernel
theorem dX7_init_68 : decode cX7_init 68 = .ok (.return_, 1) := by decide +kernel
theorem dX0_init_0 : decode cX0_init 0 = .ok (.aload_n 0, 1) := by decide +kernel
theorem dX0_init_1 : decode cX0_init 1 = .ok (.invokespecial 3, 3) := by decide +kernel
theorem dX0_init_4 : decode cX0_init 4 = .ok (.aload_n 0, 1) := by decide +kernel
theorem dX0_init_5 : decode cX0_init 5 = .ok (.iconst 0, 1) := by decide +kernel
theorem dX0_init_6 : decode cX0_init 6 = .ok (.putfield 9, 3) := by decide +kernel
theorem dX0_init_9 : decode cX0_init 9 = .ok (.aload_n 0, 1) := by decide +kernel
theorem dX0_init_10 : decode cX0_init 10 = .ok (.iconst 0, 1) := by decide +kernel
theorem dX0_init_11 : decode cX0_init 11 = .ok (.putfield 15, 3) := by decide +kernel
theorem dX0_init_14 : decode cX0_init 14 = .ok (.aload_n 0, 1) := by decide +kernel
theorem dX0_init_15 : decode cX0_init 15 = .ok (.iconst (-1), 1) := by decide +kernel
theorem dX0_init_16 : decode cX0_init 16 = .ok (.putfield 19, 3) := by decide +kernel
theorem dX0_init_19 : decode cX0_init 19 = .ok (.aload_n 0, 1) := by decide +kernel
theorem dX0_init_20 : decode cX0_init 20 = .ok (.iconst 1, 1) := by decide +kernel
theorem dX0_init_21 : decode cX0_init 21 = .ok (.putfield 22, 3) := by decide +kernel
theorem dX0_init_24 : decode cX0_init 24 = .ok (.aload_n 0, 1) := by decide +kernel
theorem dX0_init_25 : decode cX0_init 25 = .ok (.bipush 25, 2) := by decide +kernel
theorem dX0_init_27 : decode cX0_init 27 = .ok (.newarray .boolean, 2) := by decide +kernel
theorem dX0_init_29 : decode cX0_init 29 = .ok (.putfield 25, 3) := by decide +kernel
theorem dX0_init_32 : decode cX0_init 32 = .ok (.aload_n 0, 1) := by decide +kernel
theorem dX0_init_33 : decode cX0_init 33 = .ok (.iconst 0, 1) := by decide +kernel
theorem dX0_init_34 : decode cX0_init 34 = .ok (.putfield 29, 3) := by decide +kernel
theorem dX0_init_37 : decode cX0_init 37 = .ok (.aload_n 0, 1) := by decide +kernel
theorem dX0_init_38 : decode cX0_init 38 = .ok (.bipush 7, 2) := by decide +kernel
theorem dX0_init_40 : decode cX0_init 40 = .ok (.newarray .long, 2) := by decide +kernel
theorem dX0_init_42 : decode cX0_init 42 = .ok (.putfield 34, 3) := by decide +kernel
theorem dX0_init_45 : decode cX0_init 45 = .ok (.aload_n 0, 1) := by decide +kernel
theorem dX0_init_46 : decode cX0_init 46 = .ok (.aload_n 1, 1) := by decide +kernel
theorem dX0_init_47 : decode cX0_init 47 = .ok (.putfield 38, 3) := by decide +kernel
theorem dX0_init_50 : decode cX0_init 50 = .ok (.aload_n 0, 1) := by decide +kernel
theorem dX0_init_51 : decode cX0_init 51 = .ok (.aload_n 1, 1) := by decide +kernel
theorem dX0_init_52 : decode cX0_init 52 = .ok (.getfield 42, 3) := by decide +kernel
theorem dX0_init_55 : decode cX0_init 55 = .ok (.putfield 48, 3) := by decide +kernel
theorem dX0_init_58 : decode cX0_init 58 = .ok (.return_, 1) := by decide +kernel
theorem dX4_init_0 : decode cX4_init 0 = .ok (.aload_n 0, 1) := by decide +kernel
theorem dX4_init_1 : decode cX4_init 1 = .ok (.invokespecial 3, 3) := by decide +kernel
theorem dX4_init_4 : decode cX4_init 4 = .ok (.aload_n 0, 1) := by decide +kernel
theorem dX4_init_5 : decode cX4_init 5 = .ok (.iconst 0, 1) := by decide +kernel
theorem dX4_init_6 : decode cX4_init 6 = .ok (.putfield 9, 3) := by decide +kernel
theorem dX4_init_9 : decode cX4_init 9 = .ok (.aload_n 0, 1) := by decide +kernel
theorem dX4_init_10 : decode cX4_init 10 = .ok (.iconst 0, 1) := by decide +kernel
theorem dX4_init_11 : decode cX4_init 11 = .ok (.putfield 15, 3) := by decide +kernel
theorem dX4_init_14 : decode cX4_init 14 = .ok (.aload_n 0, 1) := by decide +kernel
theorem dX4_init_15 : decode cX4_init 15 = .ok (.iconst 4, 1) := by decide +kernel
theorem dX4_init_16 : decode cX4_init 16 = .ok (.newarray .int, 2) := by decide +kernel
theorem dX4_init_18 : decode cX4_init 18 = .ok (.putfield 18, 3) := by decide +kernel
theorem dX4_init_21 : decode cX4_init 21 = .ok (.aload_n 0, 1) := by decide +kernel
theorem dX4_init_22 : decode cX4_init 22 = .ok (.iconst 0, 1) := by decide +kernel
theorem dX4_init_23 : decode cX4_init 23 = .ok (.putfield 22, 3) := by decide +kernel
theorem dX4_init_26 : decode cX4_init 26 = .ok (.aload_n 0, 1) := by decide +kernel
theorem dX4_init_27 : decode cX4_init 27 = .ok (.iconst 4, 1) := by decide +kernel
theorem dX4_init_28 : decode cX4_init 28 = .ok (.newarray .int, 2) := by decide +kernel
theorem dX4_init_30 : decode cX4_init 30 = .ok (.putfield 26, 3) := by decide +kernel
theorem dX4_init_33 : decode cX4_init 33 = .ok (.return_, 1) := by decide +kernel
theorem dX6_init_0 : decode cX6_init 0 = .ok (.aload_n 0, 1) := by decide +kernel
theorem dX6_init_1 : decode cX6_init 1 = .ok (.invokespecial 3, 3) := by decide +kernel
theorem dX6_init_4 : decode cX6_init 4 = .ok (.aload_n 0, 1) := by decide +kernel
theorem dX6_init_5 : decode cX6_init 5 = .ok (.iconst 0, 1) := by decide +kernel
theorem dX6_init_6 : decode cX6_init 6 = .ok (.putfield 9, 3) := by decide +kernel
theorem dX6_init_9 : decode cX6_init 9 = .ok (.aload_n 0, 1) := by decide +kernel
theorem dX6_init_10 : decode cX6_init 10 = .ok (.iconst (-1), 1) := by decide +kernel
theorem dX6_init_11 : decode cX6_init 11 = .ok (.putfield 15, 3) := by decide +kernel
theorem dX6_init_14 : decode cX6_init 14 = .ok (.aload_n 0, 1) := by decide +kernel
theorem dX6_init_15 : decode cX6_init 15 = .ok (.bipush 24, 2) := by decide +kernel
theorem dX6_init_17 : decode cX6_init 17 = .ok (.newarray .int, 2) := by decide +kernel
theorem dX6_init_19 : decode cX6_init 19 = .ok (.putfield 18, 3) := by decide +kernel
theorem dX6_init_22 : decode cX6_init 22 = .ok (.aload_n 0, 1) := by decide +kernel
theorem dX6_init_23 : decode cX6_init 23 = .ok (.bipush 24, 2) := by decide +kernel
theorem dX6_init_25 : decode cX6_init 25 = .ok (.newarray .int, 2) := by decide +kernel
theorem dX6_init_27 : decode cX6_init 27 = .ok (.putfield 22, 3) := by decide +kernel
theorem dX6_init_30 : decode cX6_init 30 = .ok (.aload_n 0, 1) := by decide +kernel
theorem dX6_init_31 : decode cX6_init 31 = .ok (.bipush 24, 2) := by decide +kernel
theorem dX6_init_33 : decode cX6_init 33 = .ok (.newarray .int, 2) := by decide +kernel
theorem dX6_init_35 : decode cX6_init 35 = .ok (.putfield 25, 3) := by decide +kernel
theorem dX6_init_38 : decode cX6_init 38 = .ok (.aload_n 0, 1) := by decide +kernel
theorem dX6_init_39 : decode cX6_init 39 = .ok (.bipush 24, 2) := by decide +kernel
theorem dX6_init_41 : decode cX6_init 41 = .ok (.newarray .boolean, 2) := by decide +kernel
theorem dX6_init_43 : decode cX6_init 43 = .ok (.putfield 28, 3) := by decide +kernel
theorem dX6_init_46 : decode cX6_init 46 = .ok (.aload_n 0, 1) := by decide +kernel
theorem dX6_init_47 : decode cX6_init 47 = .ok (.bipush 24, 2) := by decide +kernel
theorem dX6_init_49 : decode cX6_init 49 = .ok (.newarray .int, 2) := by decide +kernel
theorem dX6_init_51 : decode cX6_init 51 = .ok (.putfield 32, 3) := by decide +kernel
theorem dX6_init_54 : decode cX6_init 54 = .ok (.aload_n 0, 1) := by decide +kernel
theorem dX6_init_55 : decode cX6_init 55 = .ok (.bipush 24, 2) := by decide +kernel
theorem dX6_init_57 : decode cX6_init 57 = .ok (.newarray .boolean, 2) := by decide +kernel
theorem dX6_init_59 : decode cX6_init 59 = .ok (.putfield 35, 3) := by decide +kernel
theorem dX6_init_62 : decode cX6_init 62 = .ok (.return_, 1) := by decide +kernel
theorem dX3_init_0 : decode cX3_init 0 = .ok (.aload_n 0, 1) := by decide +kernel
theorem dX3_init_1 : decode cX3_init 1 = .ok (.invokespecial 3, 3) := by decide +kernel
theorem dX3_init_4 : decode cX3_init 4 = .ok (.aload_n 0, 1) := by decide +kernel
theorem dX3_init_5 : decode cX3_init 5 = .ok (.iconst 0, 1) := by decide +kernel
theorem dX3_init_6 : decode cX3_init 6 = .ok (.putfield 9, 3) := by decide +kernel
theorem dX3_init_9 : decode cX3_init 9 = .ok (.aload_n 0, 1) := by decide +kernel
theorem dX3_init_10 : decode cX3_init 10 = .ok (.bipush 80, 2) := by decide +kernel
theorem dX3_init_12 : decode cX3_init 12 = .ok (.newarray .int, 2) := by decide +kernel
theorem dX3_init_14 : decode cX3_init 14 = .ok (.putfield 15, 3) := by decide +kernel
theorem dX3_init_17 : decode cX3_init 17 = .ok (.return_, 1) := by decide +kernel
theorem dX10_init_0 : decode cX10_init 0 = .ok (.aload_n 0, 1) := by decide +kernel
theorem dX10_init_1 : decode cX10_init 1 = .ok (.invokespecial 1, 3) := by decide +kernel
theorem dX10_init_4 : decode cX10_init 4 = .ok (.aload_n 0, 1) := by decide +kernel
theorem dX10_init_5 : decode cX10_init 5 = .ok (.sipush 700, 3) := by decide +kernel
theorem dX10_init_8 : decode cX10_init 8 = .ok (.newarray .byte, 2) := by decide +kernel
theorem dX10_init_10 : decode cX10_init 10 = .ok (.putfield 9, 3) := by decide +kernel
theorem dX10_init_13 : decode cX10_init 13 = .ok (.aload_n 0, 1) := by decide +kernel
theorem dX10_init_14 : decode cX10_init 14 = .ok (.iconst 0, 1) := by decide +kernel
theorem dX10_init_15 : decode cX10_init 15 = .ok (.putfield 13, 3) := by decide +kernel
theorem dX10_init_18 : decode cX10_init 18 = .ok (.aload_n 0, 1) := by decide +kernel
theorem dX10_init_19 : decode cX10_init 19 = .ok (.new 17, 3) := by decide +kernel
theorem dX10_init_22 : decode cX10_init 22 = .ok (.dup, 1) := by decide +kernel
theorem dX10_init_23 : decode cX10_init 23 = .ok (.invokespecial 19, 3) := by decide +kernel
theorem dX10_init_26 : decode cX10_init 26 = .ok (.putfield 20, 3) := by decide +kernel
theorem dX10_init_29 : decode cX10_init 29 = .ok (.aload_n 0, 1) := by decide +kernel
theorem dX10_init_30 : decode cX10_init 30 = .ok (.new 17, 3) := by decide +kernel
theorem dX10_init_33 : decode cX10_init 33 = .ok (.dup, 1) := by decide +kernel
theorem dX10_init_34 : decode cX10_init 34 = .ok (.invokespecial 19, 3) := by decide +kernel
theorem dX10_init_37 : decode cX10_init 37 = .ok (.putfield 24, 3) := by decide +kernel
theorem dX10_init_40 : decode cX10_init 40 = .ok (.aload_n 0, 1) := by decide +kernel
theorem dX10_init_41 : decode cX10_init 41 = .ok (.new 27, 3) := by decide +kernel
theorem dX10_init_44 : decode cX10_init 44 = .ok (.dup, 1) := by decide +kernel
theorem dX10_init_45 : decode cX10_init 45 = .ok (.aload_n 0, 1) := by decide +kernel
theorem dX10_init_46 : decode cX10_init 46 = .ok (.getfield 9, 3) := by decide +kernel
theorem dX10_init_49 : decode cX10_init 49 = .ok (.aload_n 0, 1) := by decide +kernel
theorem dX10_init_50 : decode cX10_init 50 = .ok (.getfield 24, 3) := by decide +kernel
theorem dX10_init_53 : decode cX10_init 53 = .ok (.invokespecial 29, 3) := by decide +kernel
theorem dX10_init_56 : decode cX10_init 56 = .ok (.putfield 32, 3) := by decide +kernel
theorem dX10_init_59 : decode cX10_init 59 = .ok (.aload_n 0, 1) := by decide +kernel
theorem dX10_init_60 : decode cX10_init 60 = .ok (.iconst 0, 1) := by decide +kernel
theorem dX10_init_61 : decode cX10_init 61 = .ok (.putfield 36, 3) := by decide +kernel
theorem dX10_init_64 : decode cX10_init 64 = .ok (.aload_n 0, 1) := by decide +kernel
theorem dX10_init_65 : decode cX10_init 65 = .ok (.iconst (-1), 1) := by decide +kernel
theorem dX10_init_66 : decode cX10_init 66 = .ok (.putfield 39, 3) := by decide +kernel
theorem dX10_init_69 : decode cX10_init 69 = .ok (.aload_n 0, 1) := by decide +kernel
theorem dX10_init_70 : decode cX10_init 70 = .ok (.new 42, 3) := by decide +kernel
theorem dX10_init_73 : decode cX10_init 73 = .ok (.dup, 1) := by decide +kernel
theorem dX10_init_74 : decode cX10_init 74 = .ok (.aload_n 0, 1) := by decide +kernel
theorem dX10_init_75 : decode cX10_init 75 = .ok (.getfield 20, 3) := by decide +kernel
theorem dX10_init_78 : decode cX10_init 78 = .ok (.invokespecial 44, 3) := by decide +kernel
theorem dX10_init_81 : decode cX10_init 81 = .ok (.putfield 47, 3) := by decide +kernel
theorem dX10_init_84 : decode cX10_init 84 = .ok (.aload_n 0, 1) := by decide +kernel
theorem dX10_init_85 : decode cX10_init 85 = .ok (.new 42, 3) := by decide +kernel
theorem dX10_init_88 : decode cX10_init 88 = .ok (.dup, 1) := by decide +kernel
theorem dX10_init_89 : decode cX10_init 89 = .ok (.aload_n 0, 1) := by decide +kernel
theorem dX10_init_90 : decode cX10_init 90 = .ok (.getfield 20, 3) := by decide +kernel
theorem dX10_init_93 : decode cX10_init 93 = .ok (.invokespecial 44, 3) := by decide +kernel
theorem dX10_init_96 : decode cX10_init 96 = .ok (.putfield 51, 3) := by decide +kernel
theorem dX10_init_99 : decode cX10_init 99 = .ok (.aload_n 0, 1) := by decide +kernel
theorem dX10_init_100 : decode cX10_init 100 = .ok (.iconst 0, 1) := by decide +kernel
theorem dX10_init_101 : decode cX10_init 101 = .ok (.putfield 54, 3) := by decide +kernel
theorem dX10_init_104 : decode cX10_init 104 = .ok (.aload_n 0, 1) := by decide +kernel
theorem dX10_init_105 : decode cX10_init 105 = .ok (.new 42, 3) := by decide +kernel
theorem dX10_init_108 : decode cX10_init 108 = .ok (.dup, 1) := by decide +kernel
theorem dX10_init_109 : decode cX10_init 109 = .ok (.aload_n 0, 1) := by decide +kernel
theorem dX10_init_110 : decode cX10_init 110 = .ok (.getfield 20, 3) := by decide +kernel
theorem dX10_init_113 : decode cX10_init 113 = .ok (.invokespecial 44, 3) := by decide +kernel
theorem dX10_init_116 : decode cX10_init 116 = .ok (.putfield 58, 3) := by decide +kernel
theorem dX10_init_119 : decode cX10_init 119 = .ok (.aload_n 0, 1) := by decide +kernel
theorem dX10_init_120 : decode cX10_init 120 = .ok (.new 61, 3) := by decide +kernel
theorem dX10_init_123 : decode cX10_init 123 = .ok (.dup, 1) := by decide +kernel
theorem dX10_init_124 : decode cX10_init 124 = .ok (.aload_n 0, 1) := by decide +kernel
theorem dX10_init_125 : decode cX10_init 125 = .ok (.getfield 47, 3) := by decide +kernel
theorem dX10_init_128 : decode cX10_init 128 = .ok (.invokespecial 63, 3) := by decide +kernel
theorem dX10_init_131 : decode cX10_init 131 = .ok (.putfield 66, 3) := by decide +kernel
theorem dX10_init_134 : decode cX10_init 134 = .ok (.aload_n 0, 1) := by decide +kernel
theorem dX10_init_135 : decode cX10_init 135 = .ok (.bipush 31, 2) := by decide +kernel
theorem dX10_init_137 : decode cX10_init 137 = .ok (.newarray .int, 2) := by decide +kernel
theorem dX10_init_139 : decode cX10_init 139 = .ok (.putfield 70, 3) := by decide +kernel
theorem dX10_init_142 : decode cX10_init 142 = .ok (.aload_n 0, 1) := by decide +kernel
theorem dX10_init_143 : decode cX10_init 143 = .ok (.new 74, 3) := by decide +kernel
theorem dX10_init_146 : decode cX10_init 146 = .ok (.dup, 1) := by decide +kernel
theorem dX10_init_147 : decode cX10_init 147 = .ok (.invokespecial 76, 3) := by decide +kernel
theorem dX10_init_150 : decode cX10_init 150 = .ok (.putfield 77, 3) := by decide +kernel
theorem dX10_init_153 : decode cX10_init 153 = .ok (.aload_n 0, 1) := by decide +kernel
theorem dX10_init_154 : decode cX10_init 154 = .ok (.new 81, 3) := by decide +kernel
theorem dX10_init_157 : decode cX10_init 157 = .ok (.dup, 1) := by decide +kernel
theorem dX10_init_158 : decode cX10_init 158 = .ok (.invokespecial 83, 3) := by decide +kernel
theorem dX10_init_161 : decode cX10_init 161 = .ok (.putfield 84, 3) := by decide +kernel
theorem dX10_init_164 : decode cX10_init 164 = .ok (.aload_n 0, 1) := by decide +kernel
theorem dX10_init_165 : decode cX10_init 165 = .ok (.new 88, 3) := by decide +kernel
theorem dX10_init_168 : decode cX10_init 168 = .ok (.dup, 1) := by decide +kernel
theorem dX10_init_169 : decode cX10_init 169 = .ok (.invokespecial 90, 3) := by decide +kernel
theorem dX10_init_172 : decode cX10_init 172 = .ok (.putfield 91, 3) := by decide +kernel
theorem dX10_init_175 : decode cX10_init 175 = .ok (.return_, 1) := by decide +kernel
section
variable {p : Program} {l : Launch} {e : Env} {s : State} {m : MethodId} {args : Array Value} {below : List Frame} {meth : Method} {c : Code} {D : va_G} {aC : Nat → ClassId} {B : Nat}
def f2_init_11 (F : Nat) (mem : g_M) : Option (g_M) :=
 g_let (g_sR mem 11 0 (some 12)) (fun m1 =>
 g_let (g_sR m1 11 1 (some 13)) (fun m2 =>
 g_let (g_sR m2 11 2 (some 14)) (fun m3 =>
 g_let (g_sI m3 11 3 (0 : Int32)) (fun m4 =>
 g_let (g_sR m4 11 4 (some 15)) (fun m5 =>
 some m5)))))

def f9_init_2 (F : Nat) (mem : g_M) : Option (g_M) :=
 g_let (g_sR mem 2 0 (some 3)) (fun m1 =>
 g_let (g_sR m1 2 1 (some 4)) (fun m2 =>
 g_let (g_sR m2 2 2 (some 5)) (fun m3 =>
 g_let (g_sR m3 2 3 (some 6)) (fun m4 =>
 g_let (g_sR m4 2 4 (some 7)) (fun m5 =>
 g_let (g_sR m5 2 5 (some 8)) (fun m6 =>
 g_let (g_sI m6 2 6 (0 : Int32)) (fun m7 =>
 g_let (g_sR m7 2 7 (some 9)) (fun m8 =>
 g_let (g_sI m8 2 8 (0 : Int32)) (fun m9 =>
 g_let (g_sR m9 2 9 (some 10)) (fun m10 =>
 g_let (g_sI m10 2 10 (9 : Int32)) (fun m11 =>
 g_let (g_sI m11 2 11 (0 : Int32)) (fun m12 =>
 g_let (g_sI m12 2 12 (0 : Int32)) (fun m13 =>
 (f2_init_11 F m13).bind (fun r14 =>
 g_let (g_sR r14 2 13 (some 11)) (fun m15 =>
 some m15)))))))))))))))

def f2_init_25 (F : Nat) (mem : g_M) : Option (g_M) :=
 g_let (g_sR mem 25 0 (some 26)) (fun m1 =>
 g_let (g_sR m1 25 1 (some 27)) (fun m2 =>
 g_let (g_sR m2 25 2 (some 28)) (fun m3 =>
 g_let (g_sI m3 25 3 (0 : Int32)) (fun m4 =>
 g_let (g_sR m4 25 4 (some 29)) (fun m5 =>
 some m5)))))

def f9_init_16 (F : Nat) (mem : g_M) : Option (g_M) :=
 g_let (g_sR mem 16 0 (some 17)) (fun m1 =>
 g_let (g_sR m1 16 1 (some 18)) (fun m2 =>
 g_let (g_sR m2 16 2 (some 19)) (fun m3 =>
 g_let (g_sR m3 16 3 (some 20)) (fun m4 =>
 g_let (g_sR m4 16 4 (some 21)) (fun m5 =>
 g_let (g_sR m5 16 5 (some 22)) (fun m6 =>
 g_let (g_sI m6 16 6 (0 : Int32)) (fun m7 =>
 g_let (g_sR m7 16 7 (some 23)) (fun m8 =>
 g_let (g_sI m8 16 8 (0 : Int32)) (fun m9 =>
 g_let (g_sR m9 16 9 (some 24)) (fun m10 =>
 g_let (g_sI m10 16 10 (9 : Int32)) (fun m11 =>
 g_let (g_sI m11 16 11 (0 : Int32)) (fun m12 =>
 g_let (g_sI m12 16 12 (0 : Int32)) (fun m13 =>
 (f2_init_25 F m13).bind (fun r14 =>
 g_let (g_sR r14 16 13 (some 25)) (fun m15 =>
 some m15)))))))))))))))

def f8_init_31_b120 (F : Nat) (a1 : Nat) (s53 : Int32 → Int32 → Int32 → Int32 → g_M → Option (g_M)) (v2 : Int32) (v3 : Int32) (v4 : Int32) (v5 : Int32) (mem : g_M) : Option (g_M) :=
 g_let (v5 + (1 : Int32)) (fun x1 =>
 s53 v2 v3 v4 x1 mem)

def f8_init_31_b53_body (F : Nat) (a1 : Nat) (s53 : Int32 → Int32 → Int32 → Int32 → g_M → Option (g_M)) (v2 : Int32) (v3 : Int32) (v4 : Int32) (v5 : Int32) (mem : g_M) : Option (g_M) :=
 if v5 < (107 : Int32) then (if v2 < (22 : Int32) then (g_ck v5 107 (
 g_let ((g_wch v5.toNatClampNeg)) (fun x7 =>
 if x7 = (32 : Int32) then (g_dra yC0 33 (mem.2.2 31 6) 50 22 (fun q9 =>
 g_ck v2 22 (
 g_let (g_sI mem q9 v2.toNatClampNeg v3) (fun m11 =>
 g_let (v2 + (1 : Int32)) (fun x12 =>
 f8_init_31_b120 F a1 s53 x12 (0 : Int32) (25 : Int32) v5 m11)))))
 else (g_let ((v3 ||| (((x7 - (97 : Int32)) + (1 : Int32)) <<< (v4 &&& 31)))) (fun x13 =>
 g_let (v4 + (-5 : Int32)) (fun x14 =>
 f8_init_31_b120 F a1 s53 v2 x13 x14 v5 mem))))))
 else (some mem))
 else (some mem)

def f8_init_31_b53 (F : Nat) (a1 : Nat) (v2 : Int32) (v3 : Int32) (v4 : Int32) (v5 : Int32) (mem : g_M) : Option (g_M) :=
  g_fix (fun sf x => f8_init_31_b53_body F a1 (fun v2 v3 v4 v5 mem => sf (v2, v3, v4, v5, mem)) x.1 x.2.1 x.2.2.1 x.2.2.2.1 x.2.2.2.2) F (v2, v3, v4, v5, mem)

def f8_init_31 (F : Nat) (a1 : Nat) (mem : g_M) : Option (g_M) :=
 g_let (g_sI mem 31 0 (0 : Int32)) (fun m15 =>
 g_let (g_sI m15 31 1 (0 : Int32)) (fun m16 =>
 g_let (g_sI m16 31 2 (0 : Int32)) (fun m17 =>
 g_let (g_sI m17 31 4 (0 : Int32)) (fun m18 =>
 g_let (g_sI m18 31 5 (0 : Int32)) (fun m19 =>
 g_let (g_sR m19 31 6 (some 32)) (fun m20 =>
 g_let (g_sR m20 31 3 (some a1)) (fun m21 =>
 f8_init_31_b53 F a1 (0 : Int32) (0 : Int32) (25 : Int32) (0 : Int32) m21)))))))

def f1_init_33 (F : Nat) (a1 : Nat) (a2 : Nat) (mem : g_M) : Option (g_M) :=
 g_let (g_sR mem 33 0 (some 34)) (fun m1 =>
 g_let (g_sI m1 33 1 (0 : Int32)) (fun m2 =>
 g_let (g_sI m2 33 2 (0 : Int32)) (fun m3 =>
 g_let (g_sI m3 33 3 (0 : Int32)) (fun m4 =>
 g_let (g_sI m4 33 4 (1 : Int32)) (fun m5 =>
 g_let (g_sR m5 33 5 (some a1)) (fun m6 =>
 g_let (g_sR m6 33 6 (some a2)) (fun m7 =>
 some m7)))))))

def f5_init_30 (F : Nat) (a1 : Nat) (a2 : Nat) (mem : g_M) : Option (g_M) :=
 g_let (g_sI mem 30 0 (0 : Int32)) (fun m1 =>
 g_let (g_sI m1 30 1 (-1 : Int32)) (fun m2 =>
 g_let (g_sI m2 30 2 (0 : Int32)) (fun m3 =>
 g_let (g_sI m3 30 6 (0 : Int32)) (fun m4 =>
 g_let (g_sI m4 30 7 (0 : Int32)) (fun m5 =>
 g_let (g_sI m5 30 8 (0 : Int32)) (fun m6 =>
 g_let (g_sR m6 30 5 (some a2)) (fun m7 =>
 (f8_init_31 F a1 m7).bind (fun r8 =>
 g_let (g_sR r8 30 3 (some 31)) (fun m9 =>
 g_dr yC0 34 (m9.2.2 30 3) 8 (fun q10 =>
 g_dr yC0 34 (m9.2.2 a2 13) 2 (fun q11 =>
 (f1_init_33 F q10 q11 m9).bind (fun r12 =>
 g_let (g_sR r12 30 4 (some 33)) (fun m13 =>
 some m13)))))))))))))

def f7_init_35 (F : Nat) (a1 : Nat) (mem : g_M) : Option (g_M) :=
 g_let (g_sI mem 35 1 (0 : Int32)) (fun m1 =>
 g_let (g_sI m1 35 2 (0 : Int32)) (fun m2 =>
 g_let (g_sI m2 35 3 (0 : Int32)) (fun m3 =>
 g_let (g_sR m3 35 4 (some 36)) (fun m4 =>
 g_let (g_sR m4 35 5 (some 37)) (fun m5 =>
 g_let (g_sR m5 35 6 (some 38)) (fun m6 =>
 g_let (g_sI m6 35 7 (0 : Int32)) (fun m7 =>
 g_let (g_sR m7 35 8 (some 39)) (fun m8 =>
 g_let (g_sR m8 35 9 (some 40)) (fun m9 =>
 g_let (g_sR m9 35 0 (some a1)) (fun m10 =>
 some m10))))))))))

def f7_init_41 (F : Nat) (a1 : Nat) (mem : g_M) : Option (g_M) :=
 g_let (g_sI mem 41 1 (0 : Int32)) (fun m1 =>
 g_let (g_sI m1 41 2 (0 : Int32)) (fun m2 =>
 g_let (g_sI m2 41 3 (0 : Int32)) (fun m3 =>
 g_let (g_sR m3 41 4 (some 42)) (fun m4 =>
 g_let (g_sR m4 41 5 (some 43)) (fun m5 =>
 g_let (g_sR m5 41 6 (some 44)) (fun m6 =>
 g_let (g_sI m6 41 7 (0 : Int32)) (fun m7 =>
 g_let (g_sR m7 41 8 (some 45)) (fun m8 =>
 g_let (g_sR m8 41 9 (some 46)) (fun m9 =>
 g_let (g_sR m9 41 0 (some a1)) (fun m10 =>
 some m10))))))))))

def f7_init_47 (F : Nat) (a1 : Nat) (mem : g_M) : Option (g_M) :=
 g_let (g_sI mem 47 1 (0 : Int32)) (fun m1 =>
 g_let (g_sI m1 47 2 (0 : Int32)) (fun m2 =>
 g_let (g_sI m2 47 3 (0 : Int32)) (fun m3 =>
 g_let (g_sR m3 47 4 (some 48)) (fun m4 =>
 g_let (g_sR m4 47 5 (some 49)) (fun m5 =>
 g_let (g_sR m5 47 6 (some 50)) (fun m6 =>
 g_let (g_sI m6 47 7 (0 : Int32)) (fun m7 =>
 g_let (g_sR m7 47 8 (some 51)) (fun m8 =>
 g_let (g_sR m8 47 9 (some 52)) (fun m9 =>
 g_let (g_sR m9 47 0 (some a1)) (fun m10 =>
 some m10))))))))))

def f0_init_53 (F : Nat) (a1 : Nat) (mem : g_M) : Option (g_M) :=
 g_let (g_sI mem 53 0 (0 : Int32)) (fun m1 =>
 g_let (g_sI m1 53 1 (0 : Int32)) (fun m2 =>
 g_let (g_sI m2 53 2 (-1 : Int32)) (fun m3 =>
 g_let (g_sI m3 53 5 (1 : Int32)) (fun m4 =>
 g_let (g_sR m4 53 6 (some 54)) (fun m5 =>
 g_let (g_sI m5 53 7 (0 : Int32)) (fun m6 =>
 g_let (g_sR m6 53 8 (some 55)) (fun m7 =>
 g_let (g_sR m7 53 3 (some a1)) (fun m8 =>
 g_dr yC0 56 (m8.2.2 a1 0) 9 (fun q9 =>
 g_let (g_sR m8 53 4 (some q9)) (fun m10 =>
 some m10))))))))))

def f4_init_57 (F : Nat) (mem : g_M) : Option (g_M) :=
 g_let (g_sI mem 57 0 (0 : Int32)) (fun m1 =>
 g_let (g_sI m1 57 1 (0 : Int32)) (fun m2 =>
 g_let (g_sR m2 57 2 (some 58)) (fun m3 =>
 g_let (g_sI m3 57 3 (0 : Int32)) (fun m4 =>
 g_let (g_sR m4 57 4 (some 59)) (fun m5 =>
 some m5)))))

def f6_init_60 (F : Nat) (mem : g_M) : Option (g_M) :=
 g_let (g_sI mem 60 0 (0 : Int32)) (fun m1 =>
 g_let (g_sI m1 60 1 (-1 : Int32)) (fun m2 =>
 g_let (g_sR m2 60 2 (some 61)) (fun m3 =>
 g_let (g_sR m3 60 3 (some 62)) (fun m4 =>
 g_let (g_sR m4 60 4 (some 63)) (fun m5 =>
 g_let (g_sR m5 60 5 (some 64)) (fun m6 =>
 g_let (g_sR m6 60 6 (some 65)) (fun m7 =>
 g_let (g_sR m7 60 7 (some 66)) (fun m8 =>
 some m8))))))))

def f3_init_67 (F : Nat) (mem : g_M) : Option (g_M) :=
 g_let (g_sI mem 67 0 (0 : Int32)) (fun m1 =>
 g_let (g_sR m1 67 1 (some 68)) (fun m2 =>
 some m2))

def f10_init_0 (F : Nat) (mem : g_M) : Option (g_M) :=
 g_let (g_sR mem 0 0 (some 1)) (fun m1 =>
 g_let (g_sI m1 0 1 (0 : Int32)) (fun m2 =>
 (f9_init_2 F m2).bind (fun r3 =>
 g_let (g_sR r3 0 2 (some 2)) (fun m4 =>
 (f9_init_16 F m4).bind (fun r5 =>
 g_let (g_sR r5 0 3 (some 16)) (fun m6 =>
 g_dra yC0 31 (m6.2.2 0 0) 53 700 (fun q7 =>
 g_dr yC0 31 (m6.2.2 0 3) 9 (fun q8 =>
 (f5_init_30 F q7 q8 m6).bind (fun r9 =>
 g_let (g_sR r9 0 4 (some 30)) (fun m10 =>
 g_let (g_sI m10 0 5 (0 : Int32)) (fun m11 =>
 g_let (g_sI m11 0 6 (-1 : Int32)) (fun m12 =>
 g_dr yC0 36 (m12.2.2 0 2) 9 (fun q13 =>
 (f7_init_35 F q13 m12).bind (fun r14 =>
 g_let (g_sR r14 0 7 (some 35)) (fun m15 =>
 g_dr yC0 42 (m15.2.2 0 2) 9 (fun q16 =>
 (f7_init_41 F q16 m15).bind (fun r17 =>
 g_let (g_sR r17 0 8 (some 41)) (fun m18 =>
 g_let (g_sI m18 0 9 (0 : Int32)) (fun m19 =>
 g_dr yC0 48 (m19.2.2 0 2) 9 (fun q20 =>
 (f7_init_47 F q20 m19).bind (fun r21 =>
 g_let (g_sR r21 0 10 (some 47)) (fun m22 =>
 g_dr yC0 54 (m22.2.2 0 7) 7 (fun q23 =>
 (f0_init_53 F q23 m22).bind (fun r24 =>
 g_let (g_sR r24 0 11 (some 53)) (fun m25 =>
 g_let (g_sR m25 0 12 (some 56)) (fun m26 =>
 (f4_init_57 F m26).bind (fun r27 =>
 g_let (g_sR r27 0 13 (some 57)) (fun m28 =>
 (f6_init_60 F m28).bind (fun r29 =>
 g_let (g_sR r29 0 14 (some 60)) (fun m30 =>
 (f3_init_67 F m30).bind (fun r31 =>
 g_let (g_sR r31 0 15 (some 67)) (fun m32 =>
 some m32))))))))))))))))))))))))))))))))
set_option maxHeartbeats 4000000 in
set_option maxRecDepth 100000 in
theorem c2_init_11 (l : Launch) (D : va_G) (aC : Nat → ClassId) (B : Nat) {F : Nat} {mem : g_M} {q0 : g_M} (he : f2_init_11 F mem = some q0) : n_Met l yX2_init cX2_init 1 1 4 134 D aC B yC0 12 16 (zN B) mem [.ref (B + 11)] q0 := by
  refine n_ofW (by decide) rfl (by decide) (Nat.le_of_ble_eq_true rfl) ?_
  intro p e s m args below meth c ls E hml hret hlk hnm hsz hM hl
  have E : g_C p s m args c cX2_init RX2 D aC (zN B) := E
  have hx := E.1
  have hb := E.2.1
  have hown := E.2.2.1
  have hts := E.2.2.2.1
  have hl : lv_has ls 1 [(0, .ref (B + 11))] := hl
  unfold f2_init_11 at he
  refine lv_aload_n hx hb dX2_init_0 rfl (lv_at hl 0 rfl) ?_
  refine W.objInit hx hb hown (hts _ oi_X2_5) (hts _ oi_inst) (hts _ oi_code) rfl (by rw [hml]; exact hl.1) rfl dX2_init_1 (Nat.le_of_ble_eq_true rfl) (Nat.le_of_ble_eq_true rfl) ?_
  refine W.eq (g2 := F0 m 4 ls []) rfl ?_
  refine lv_aload_n hx hb dX2_init_4 rfl (lv_at hl 0 rfl) ?_
  refine lv_bipush (v := (64 : Int32)) hx hb dX2_init_5 rfl ?_
  refine n_newa (ty := .int) (atype := .int) (L := 64) E hM (by omega) rfl ka_int rfl (Or.inl ⟨rfl, rfl⟩) (by decide) (by decide) (by decide) (Nat.le_of_ble_eq_true rfl) (Nat.le_of_ble_eq_true rfl) dX2_init_7 (fun H hM => ?_)
  refine W.eq (g2 := F0 m 9 ls [.ref (B + 12), .ref (B + 11)]) rfl ?_
  refine n_putF E hM hnm (o := 11) (q := 12) (Nat.le_of_ble_eq_true rfl) rfl ff_X2_13 rfl dX2_init_9 (fun H locs hM => ?_)
  obtain ⟨m1, hm1, he⟩ := g_let_ex he
  rw [← hm1] at hM
  refine lv_aload_n hx hb dX2_init_12 rfl (lv_at hl 0 rfl) ?_
  refine lv_iconst (v := (3 : Int32)) hx hb dX2_init_13 rfl ?_
  refine n_newa (ty := .int) (atype := .int) (L := 3) E hM (by omega) rfl ka_int rfl (Or.inl ⟨rfl, rfl⟩) (by decide) (by decide) (by decide) (Nat.le_of_ble_eq_true rfl) (Nat.le_of_ble_eq_true rfl) dX2_init_14 (fun H hM => ?_)
  refine W.eq (g2 := F0 m 16 ls [.ref (B + 13), .ref (B + 11)]) rfl ?_
  refine n_putF E hM hnm (o := 11) (q := 13) (Nat.le_of_ble_eq_true rfl) rfl ff_X2_17 rfl dX2_init_16 (fun H locs hM => ?_)
  obtain ⟨m2, hm2, he⟩ := g_let_ex he
  rw [← hm2] at hM
  refine lv_aload_n hx hb dX2_init_19 rfl (lv_at hl 0 rfl) ?_
  refine lv_iconst (v := (3 : Int32)) hx hb dX2_init_20 rfl ?_
  refine n_newa (ty := .int) (atype := .int) (L := 3) E hM (by omega) rfl ka_int rfl (Or.inl ⟨rfl, rfl⟩) (by decide) (by decide) (by decide) (Nat.le_of_ble_eq_true rfl) (Nat.le_of_ble_eq_true rfl) dX2_init_21 (fun H hM => ?_)
  refine W.eq (g2 := F0 m 23 ls [.ref (B + 14), .ref (B + 11)]) rfl ?_
  refine n_putF E hM hnm (o := 11) (q := 14) (Nat.le_of_ble_eq_true rfl) rfl ff_X2_20 rfl dX2_init_23 (fun H locs hM => ?_)
  obtain ⟨m3, hm3, he⟩ := g_let_ex he
  rw [← hm3] at hM
  refine lv_aload_n hx hb dX2_init_26 rfl (lv_at hl 0 rfl) ?_
  refine lv_iconst (v := (0 : Int32)) hx hb dX2_init_27 rfl ?_
  refine n_putI E hM (o := 11) (Nat.le_of_ble_eq_true rfl) rfl nfp_X2_23 dX2_init_28 (fun H locs hM => ?_)
  obtain ⟨m4, hm4, he⟩ := g_let_ex he
  rw [← hm4] at hM
  refine lv_aload_n hx hb dX2_init_31 rfl (lv_at hl 0 rfl) ?_
  refine lv_bipush (v := (64 : Int32)) hx hb dX2_init_32 rfl ?_
  refine n_newa (ty := .long) (atype := .long) (L := 64) E hM (by omega) rfl ka_long rfl (Or.inr (Or.inl ⟨rfl, rfl⟩)) (by decide) (by decide) (by decide) (Nat.le_of_ble_eq_true rfl) (Nat.le_of_ble_eq_true rfl) dX2_init_34 (fun H hM => ?_)
  refine W.eq (g2 := F0 m 36 ls [.ref (B + 15), .ref (B + 11)]) rfl ?_
  refine n_putF E hM hnm (o := 11) (q := 15) (Nat.le_of_ble_eq_true rfl) rfl ff_X2_27 rfl dX2_init_36 (fun H locs hM => ?_)
  obtain ⟨m5, hm5, he⟩ := g_let_ex he
  rw [← hm5] at hM
  cases he
  exact n_vret E hM hret hlk dX2_init_39

set_option maxHeartbeats 4000000 in
set_option maxRecDepth 100000 in
theorem c9_init_2 (l : Launch) (D : va_G) (aC : Nat → ClassId) (B : Nat) {F : Nat} {mem : g_M} {q0 : g_M} (he : f9_init_2 F mem = some q0) : n_Met l yX9_init cX9_init 1 2 13 265 D aC B yC0 3 16 (zN B) mem [.ref (B + 2)] q0 := by
  refine n_ofW (by decide) rfl (by decide) (Nat.le_of_ble_eq_true rfl) ?_
  intro p e s m args below meth c ls E hml hret hlk hnm hsz hM hl
  have E : g_C p s m args c cX9_init RX9 D aC (zN B) := E
  have hx := E.1
  have hb := E.2.1
  have hown := E.2.2.1
  have hts := E.2.2.2.1
  have hl : lv_has ls 1 [(0, .ref (B + 2))] := hl
  unfold f9_init_2 at he
  refine lv_aload_n hx hb dX9_init_0 rfl (lv_at hl 0 rfl) ?_
  refine W.objInit hx hb hown (hts _ oi_X9_3) (hts _ oi_inst) (hts _ oi_code) rfl (by rw [hml]; exact hl.1) rfl dX9_init_1 (Nat.le_of_ble_eq_true rfl) (Nat.le_of_ble_eq_true rfl) ?_
  refine W.eq (g2 := F0 m 4 ls []) rfl ?_
  refine lv_aload_n hx hb dX9_init_4 rfl (lv_at hl 0 rfl) ?_
  refine lv_iconst (v := (3 : Int32)) hx hb dX9_init_5 rfl ?_
  refine n_newa (ty := .int) (atype := .int) (L := 3) E hM (by omega) rfl ka_int rfl (Or.inl ⟨rfl, rfl⟩) (by decide) (by decide) (by decide) (Nat.le_of_ble_eq_true rfl) (Nat.le_of_ble_eq_true rfl) dX9_init_6 (fun H hM => ?_)
  refine W.eq (g2 := F0 m 8 ls [.ref (B + 3), .ref (B + 2)]) rfl ?_
  refine n_putF E hM hnm (o := 2) (q := 3) (Nat.le_of_ble_eq_true rfl) rfl ff_X9_9 rfl dX9_init_8 (fun H locs hM => ?_)
  obtain ⟨m1, hm1, he⟩ := g_let_ex he
  rw [← hm1] at hM
  refine lv_aload_n hx hb dX9_init_11 rfl (lv_at hl 0 rfl) ?_
  refine lv_bipush (v := (15 : Int32)) hx hb dX9_init_12 rfl ?_
  refine n_newa (ty := .int) (atype := .int) (L := 15) E hM (by omega) rfl ka_int rfl (Or.inl ⟨rfl, rfl⟩) (by decide) (by decide) (by decide) (Nat.le_of_ble_eq_true rfl) (Nat.le_of_ble_eq_true rfl) dX9_init_14 (fun H hM => ?_)
  refine W.eq (g2 := F0 m 16 ls [.ref (B + 4), .ref (B + 2)]) rfl ?_
  refine n_putF E hM hnm (o := 2) (q := 4) (Nat.le_of_ble_eq_true rfl) rfl ff_X9_15 rfl dX9_init_16 (fun H locs hM => ?_)
  obtain ⟨m2, hm2, he⟩ := g_let_ex he
  rw [← hm2] at hM
  refine lv_aload_n hx hb dX9_init_19 rfl (lv_at hl 0 rfl) ?_
  refine lv_iconst (v := (5 : Int32)) hx hb dX9_init_20 rfl ?_
  refine n_newa (ty := .int) (atype := .int) (L := 5) E hM (by omega) rfl ka_int rfl (Or.inl ⟨rfl, rfl⟩) (by decide) (by decide) (by decide) (Nat.le_of_ble_eq_true rfl) (Nat.le_of_ble_eq_true rfl) dX9_init_21 (fun H hM => ?_)
  refine W.eq (g2 := F0 m 23 ls [.ref (B + 5), .ref (B + 2)]) rfl ?_
  refine n_putF E hM hnm (o := 2) (q := 5) (Nat.le_of_ble_eq_true rfl) rfl ff_X9_18 rfl dX9_init_23 (fun H locs hM => ?_)
  obtain ⟨m3, hm3, he⟩ := g_let_ex he
  rw [← hm3] at hM
  refine lv_aload_n hx hb dX9_init_26 rfl (lv_at hl 0 rfl) ?_
  refine lv_iconst (v := (5 : Int32)) hx hb dX9_init_27 rfl ?_
  refine n_newa (ty := .int) (atype := .int) (L := 5) E hM (by omega) rfl ka_int rfl (Or.inl ⟨rfl, rfl⟩) (by decide) (by decide) (by decide) (Nat.le_of_ble_eq_true rfl) (Nat.le_of_ble_eq_true rfl) dX9_init_28 (fun H hM => ?_)
  refine W.eq (g2 := F0 m 30 ls [.ref (B + 6), .ref (B + 2)]) rfl ?_
  refine n_putF E hM hnm (o := 2) (q := 6) (Nat.le_of_ble_eq_true rfl) rfl ff_X9_21 rfl dX9_init_30 (fun H locs hM => ?_)
  obtain ⟨m4, hm4, he⟩ := g_let_ex he
  rw [← hm4] at hM
  refine lv_aload_n hx hb dX9_init_33 rfl (lv_at hl 0 rfl) ?_
  refine lv_iconst (v := (5 : Int32)) hx hb dX9_init_34 rfl ?_
  refine n_newa (ty := .int) (atype := .int) (L := 5) E hM (by omega) rfl ka_int rfl (Or.inl ⟨rfl, rfl⟩) (by decide) (by decide) (by decide) (Nat.le_of_ble_eq_true rfl) (Nat.le_of_ble_eq_true rfl) dX9_init_35 (fun H hM => ?_)
  refine W.eq (g2 := F0 m 37 ls [.ref (B + 7), .ref (B + 2)]) rfl ?_
  refine n_putF E hM hnm (o := 2) (q := 7) (Nat.le_of_ble_eq_true rfl) rfl ff_X9_24 rfl dX9_init_37 (fun H locs hM => ?_)
  obtain ⟨m5, hm5, he⟩ := g_let_ex he
  rw [← hm5] at hM
  refine lv_aload_n hx hb dX9_init_40 rfl (lv_at hl 0 rfl) ?_
  refine lv_iconst (v := (5 : Int32)) hx hb dX9_init_41 rfl ?_
  refine n_newa (ty := .int) (atype := .int) (L := 5) E hM (by omega) rfl ka_int rfl (Or.inl ⟨rfl, rfl⟩) (by decide) (by decide) (by decide) (Nat.le_of_ble_eq_true rfl) (Nat.le_of_ble_eq_true rfl) dX9_init_42 (fun H hM => ?_)
  refine W.eq (g2 := F0 m 44 ls [.ref (B + 8), .ref (B + 2)]) rfl ?_
  refine n_putF E hM hnm (o := 2) (q := 8) (Nat.le_of_ble_eq_true rfl) rfl ff_X9_27 rfl dX9_init_44 (fun H locs hM => ?_)
  obtain ⟨m6, hm6, he⟩ := g_let_ex he
  rw [← hm6] at hM
  refine lv_aload_n hx hb dX9_init_47 rfl (lv_at hl 0 rfl) ?_
  refine lv_iconst (v := (0 : Int32)) hx hb dX9_init_48 rfl ?_
  refine n_putI E hM (o := 2) (Nat.le_of_ble_eq_true rfl) rfl nfp_X9_30 dX9_init_49 (fun H locs hM => ?_)
  obtain ⟨m7, hm7, he⟩ := g_let_ex he
  rw [← hm7] at hM
  refine lv_aload_n hx hb dX9_init_52 rfl (lv_at hl 0 rfl) ?_
  refine lv_bipush (v := (48 : Int32)) hx hb dX9_init_53 rfl ?_
  refine n_newa (ty := .int) (atype := .int) (L := 48) E hM (by omega) rfl ka_int rfl (Or.inl ⟨rfl, rfl⟩) (by decide) (by decide) (by decide) (Nat.le_of_ble_eq_true rfl) (Nat.le_of_ble_eq_true rfl) dX9_init_55 (fun H hM => ?_)
  refine W.eq (g2 := F0 m 57 ls [.ref (B + 9), .ref (B + 2)]) rfl ?_
  refine n_putF E hM hnm (o := 2) (q := 9) (Nat.le_of_ble_eq_true rfl) rfl ff_X9_34 rfl dX9_init_57 (fun H locs hM => ?_)
  obtain ⟨m8, hm8, he⟩ := g_let_ex he
  rw [← hm8] at hM
  refine lv_aload_n hx hb dX9_init_60 rfl (lv_at hl 0 rfl) ?_
  refine lv_iconst (v := (0 : Int32)) hx hb dX9_init_61 rfl ?_
  refine n_putI E hM (o := 2) (Nat.le_of_ble_eq_true rfl) rfl nfp_X9_37 dX9_init_62 (fun H locs hM => ?_)
  obtain ⟨m9, hm9, he⟩ := g_let_ex he
  rw [← hm9] at hM
  refine lv_aload_n hx hb dX9_init_65 rfl (lv_at hl 0 rfl) ?_
  refine lv_bipush (v := (40 : Int32)) hx hb dX9_init_66 rfl ?_
  refine n_newa (ty := .int) (atype := .int) (L := 40) E hM (by omega) rfl ka_int rfl (Or.inl ⟨rfl, rfl⟩) (by decide) (by decide) (by decide) (Nat.le_of_ble_eq_true rfl) (Nat.le_of_ble_eq_true rfl) dX9_init_68 (fun H hM => ?_)
  refine W.eq (g2 := F0 m 70 ls [.ref (B + 10), .ref (B + 2)]) rfl ?_
  refine n_putF E hM hnm (o := 2) (q := 10) (Nat.le_of_ble_eq_true rfl) rfl ff_X9_40 rfl dX9_init_70 (fun H locs hM => ?_)
  obtain ⟨m10, hm10, he⟩ := g_let_ex he
  rw [← hm10] at hM
  refine lv_aload_n hx hb dX9_init_73 rfl (lv_at hl 0 rfl) ?_
  refine lv_bipush (v := (9 : Int32)) hx hb dX9_init_74 rfl ?_
  refine n_putI E hM (o := 2) (Nat.le_of_ble_eq_true rfl) rfl nfp_X9_43 dX9_init_76 (fun H locs hM => ?_)
  obtain ⟨m11, hm11, he⟩ := g_let_ex he
  rw [← hm11] at hM
  refine lv_aload_n hx hb dX9_init_79 rfl (lv_at hl 0 rfl) ?_
  refine lv_iconst (v := (0 : Int32)) hx hb dX9_init_80 rfl ?_
  refine n_putI E hM (o := 2) (Nat.le_of_ble_eq_true rfl) rfl nfp_X9_46 dX9_init_81 (fun H locs hM => ?_)
  obtain ⟨m12, hm12, he⟩ := g_let_ex he
  rw [← hm12] at hM
  refine lv_aload_n hx hb dX9_init_84 rfl (lv_at hl 0 rfl) ?_
  refine lv_iconst (v := (0 : Int32)) hx hb dX9_init_85 rfl ?_
  refine n_putI E hM (o := 2) (Nat.le_of_ble_eq_true rfl) rfl nfp_X9_49 dX9_init_86 (fun H locs hM => ?_)
  obtain ⟨m13, hm13, he⟩ := g_let_ex he
  rw [← hm13] at hM
  refine lv_aload_n hx hb dX9_init_89 rfl (lv_at hl 0 rfl) ?_
  refine n_new E hM (by omega) (ci := 2) rfl rfl kl_X9_52.1 kl_X9_52.2.1 kl_X9_52.2.2 (fun _ => rfl) (Nat.le_of_ble_eq_true rfl) (Nat.le_of_ble_eq_true rfl) dX9_init_90 (fun H hM => ?_)
  refine W.eq (g2 := F0 m 93 ls [.ref (B + 11), .ref (B + 2)]) rfl ?_
  refine lv_dup hx hb dX9_init_93 rfl ?_
  obtain ⟨r14, hcr14, he⟩ := g_bind he
  refine n_callIN [] (rest := [.ref (B + 11), .ref (B + 2)]) E hml hl.1 hM (by omega) E.2.2.2.2.2.2.2.1 cn_X2_init (c2_init_11 l D aC B hcr14) (by decide) (fun _ h => h.calling) (fun U hU hW => E.2.2.2.2.2.warm hW (fun q h1 h2 => by rw [hU]; exact hM.2.1.2.1 q h1 h2)) (by decide) (by decide) rfl rfl (Nat.le_of_ble_eq_true rfl) dX9_init_94 ⟨Nat.le_of_ble_eq_true rfl, Nat.le_of_ble_eq_true rfl⟩ (fun H locs hM => ?_)
  refine W.eq (g2 := F0 m 97 ls [.ref (B + 11), .ref (B + 2)]) rfl ?_
  refine n_putF E hM hnm (o := 2) (q := 11) (Nat.le_of_ble_eq_true rfl) rfl ff_X9_55 rfl dX9_init_97 (fun H locs hM => ?_)
  obtain ⟨m15, hm15, he⟩ := g_let_ex he
  rw [← hm15] at hM
  cases he
  exact n_vret E hM hret hlk dX9_init_100

set_option maxHeartbeats 4000000 in
set_option maxRecDepth 100000 in
theorem c2_init_25 (l : Launch) (D : va_G) (aC : Nat → ClassId) (B : Nat) {F : Nat} {mem : g_M} {q0 : g_M} (he : f2_init_25 F mem = some q0) : n_Met l yX2_init cX2_init 1 1 4 134 D aC B yC0 26 30 (zN B) mem [.ref (B + 25)] q0 := by
  refine n_ofW (by decide) rfl (by decide) (Nat.le_of_ble_eq_true rfl) ?_
  intro p e s m args below meth c ls E hml hret hlk hnm hsz hM hl
  have E : g_C p s m args c cX2_init RX2 D aC (zN B) := E
  have hx := E.1
  have hb := E.2.1
  have hown := E.2.2.1
  have hts := E.2.2.2.1
  have hl : lv_has ls 1 [(0, .ref (B + 25))] := hl
  unfold f2_init_25 at he
  refine lv_aload_n hx hb dX2_init_0 rfl (lv_at hl 0 rfl) ?_
  refine W.objInit hx hb hown (hts _ oi_X2_5) (hts _ oi_inst) (hts _ oi_code) rfl (by rw [hml]; exact hl.1) rfl dX2_init_1 (Nat.le_of_ble_eq_true rfl) (Nat.le_of_ble_eq_true rfl) ?_
  refine W.eq (g2 := F0 m 4 ls []) rfl ?_
  refine lv_aload_n hx hb dX2_init_4 rfl (lv_at hl 0 rfl) ?_
  refine lv_bipush (v := (64 : Int32)) hx hb dX2_init_5 rfl ?_
  refine n_newa (ty := .int) (atype := .int) (L := 64) E hM (by omega) rfl ka_int rfl (Or.inl ⟨rfl, rfl⟩) (by decide) (by decide) (by decide) (Nat.le_of_ble_eq_true rfl) (Nat.le_of_ble_eq_true rfl) dX2_init_7 (fun H hM => ?_)
  refine W.eq (g2 := F0 m 9 ls [.ref (B + 26), .ref (B + 25)]) rfl ?_
  refine n_putF E hM hnm (o := 25) (q := 26) (Nat.le_of_ble_eq_true rfl) rfl ff_X2_13 rfl dX2_init_9 (fun H locs hM => ?_)
  obtain ⟨m1, hm1, he⟩ := g_let_ex he
  rw [← hm1] at hM
  refine lv_aload_n hx hb dX2_init_12 rfl (lv_at hl 0 rfl) ?_
  refine lv_iconst (v := (3 : Int32)) hx hb dX2_init_13 rfl ?_
  refine n_newa (ty := .int) (atype := .int) (L := 3) E hM (by omega) rfl ka_int rfl (Or.inl ⟨rfl, rfl⟩) (by decide) (by decide) (by decide) (Nat.le_of_ble_eq_true rfl) (Nat.le_of_ble_eq_true rfl) dX2_init_14 (fun H hM => ?_)
  refine W.eq (g2 := F0 m 16 ls [.ref (B + 27), .ref (B + 25)]) rfl ?_
  refine n_putF E hM hnm (o := 25) (q := 27) (Nat.le_of_ble_eq_true rfl) rfl ff_X2_17 rfl dX2_init_16 (fun H locs hM => ?_)
  obtain ⟨m2, hm2, he⟩ := g_let_ex he
  rw [← hm2] at hM
  refine lv_aload_n hx hb dX2_init_19 rfl (lv_at hl 0 rfl) ?_
  refine lv_iconst (v := (3 : Int32)) hx hb dX2_init_20 rfl ?_
  refine n_newa (ty := .int) (atype := .int) (L := 3) E hM (by omega) rfl ka_int rfl (Or.inl ⟨rfl, rfl⟩) (by decide) (by decide) (by decide) (Nat.le_of_ble_eq_true rfl) (Nat.le_of_ble_eq_true rfl) dX2_init_21 (fun H hM => ?_)
  refine W.eq (g2 := F0 m 23 ls [.ref (B + 28), .ref (B + 25)]) rfl ?_
  refine n_putF E hM hnm (o := 25) (q := 28) (Nat.le_of_ble_eq_true rfl) rfl ff_X2_20 rfl dX2_init_23 (fun H locs hM => ?_)
  obtain ⟨m3, hm3, he⟩ := g_let_ex he
  rw [← hm3] at hM
  refine lv_aload_n hx hb dX2_init_26 rfl (lv_at hl 0 rfl) ?_
  refine lv_iconst (v := (0 : Int32)) hx hb dX2_init_27 rfl ?_
  refine n_putI E hM (o := 25) (Nat.le_of_ble_eq_true rfl) rfl nfp_X2_23 dX2_init_28 (fun H locs hM => ?_)
  obtain ⟨m4, hm4, he⟩ := g_let_ex he
  rw [← hm4] at hM
  refine lv_aload_n hx hb dX2_init_31 rfl (lv_at hl 0 rfl) ?_
  refine lv_bipush (v := (64 : Int32)) hx hb dX2_init_32 rfl ?_
  refine n_newa (ty := .long) (atype := .long) (L := 64) E hM (by omega) rfl ka_long rfl (Or.inr (Or.inl ⟨rfl, rfl⟩)) (by decide) (by decide) (by decide) (Nat.le_of_ble_eq_true rfl) (Nat.le_of_ble_eq_true rfl) dX2_init_34 (fun H hM => ?_)
  refine W.eq (g2 := F0 m 36 ls [.ref (B + 29), .ref (B + 25)]) rfl ?_
  refine n_putF E hM hnm (o := 25) (q := 29) (Nat.le_of_ble_eq_true rfl) rfl ff_X2_27 rfl dX2_init_36 (fun H locs hM => ?_)
  obtain ⟨m5, hm5, he⟩ := g_let_ex he
  rw [← hm5] at hM
  cases he
  exact n_vret E hM hret hlk dX2_init_39

set_option maxHeartbeats 4000000 in
set_option maxRecDepth 100000 in
theorem c9_init_16 (l : Launch) (D : va_G) (aC : Nat → ClassId) (B : Nat) {F : Nat} {mem : g_M} {q0 : g_M} (he : f9_init_16 F mem = some q0) : n_Met l yX9_init cX9_init 1 2 13 265 D aC B yC0 17 30 (zN B) mem [.ref (B + 16)] q0 := by
  refine n_ofW (by decide) rfl (by decide) (Nat.le_of_ble_eq_true rfl) ?_
  intro p e s m args below meth c ls E hml hret hlk hnm hsz hM hl
  have E : g_C p s m args c cX9_init RX9 D aC (zN B) := E
  have hx := E.1
  have hb := E.2.1
  have hown := E.2.2.1
  have hts := E.2.2.2.1
  have hl : lv_has ls 1 [(0, .ref (B + 16))] := hl
  unfold f9_init_16 at he
  refine lv_aload_n hx hb dX9_init_0 rfl (lv_at hl 0 rfl) ?_
  refine W.objInit hx hb hown (hts _ oi_X9_3) (hts _ oi_inst) (hts _ oi_code) rfl (by rw [hml]; exact hl.1) rfl dX9_init_1 (Nat.le_of_ble_eq_true rfl) (Nat.le_of_ble_eq_true rfl) ?_
  refine W.eq (g2 := F0 m 4 ls []) rfl ?_
  refine lv_aload_n hx hb dX9_init_4 rfl (lv_at hl 0 rfl) ?_
  refine lv_iconst (v := (3 : Int32)) hx hb dX9_init_5 rfl ?_
  refine n_newa (ty := .int) (atype := .int) (L := 3) E hM (by omega) rfl ka_int rfl (Or.inl ⟨rfl, rfl⟩) (by decide) (by decide) (by decide) (Nat.le_of_ble_eq_true rfl) (Nat.le_of_ble_eq_true rfl) dX9_init_6 (fun H hM => ?_)
  refine W.eq (g2 := F0 m 8 ls [.ref (B + 17), .ref (B + 16)]) rfl ?_
  refine n_putF E hM hnm (o := 16) (q := 17) (Nat.le_of_ble_eq_true rfl) rfl ff_X9_9 rfl dX9_init_8 (fun H locs hM => ?_)
  obtain ⟨m1, hm1, he⟩ := g_let_ex he
  rw [← hm1] at hM
  refine lv_aload_n hx hb dX9_init_11 rfl (lv_at hl 0 rfl) ?_
  refine lv_bipush (v := (15 : Int32)) hx hb dX9_init_12 rfl ?_
  refine n_newa (ty := .int) (atype := .int) (L := 15) E hM (by omega) rfl ka_int rfl (Or.inl ⟨rfl, rfl⟩) (by decide) (by decide) (by decide) (Nat.le_of_ble_eq_true rfl) (Nat.le_of_ble_eq_true rfl) dX9_init_14 (fun H hM => ?_)
  refine W.eq (g2 := F0 m 16 ls [.ref (B + 18), .ref (B + 16)]) rfl ?_
  refine n_putF E hM hnm (o := 16) (q := 18) (Nat.le_of_ble_eq_true rfl) rfl ff_X9_15 rfl dX9_init_16 (fun H locs hM => ?_)
  obtain ⟨m2, hm2, he⟩ := g_let_ex he
  rw [← hm2] at hM
  refine lv_aload_n hx hb dX9_init_19 rfl (lv_at hl 0 rfl) ?_
  refine lv_iconst (v := (5 : Int32)) hx hb dX9_init_20 rfl ?_
  refine n_newa (ty := .int) (atype := .int) (L := 5) E hM (by omega) rfl ka_int rfl (Or.inl ⟨rfl, rfl⟩) (by decide) (by decide) (by decide) (Nat.le_of_ble_eq_true rfl) (Nat.le_of_ble_eq_true rfl) dX9_init_21 (fun H hM => ?_)
  refine W.eq (g2 := F0 m 23 ls [.ref (B + 19), .ref (B + 16)]) rfl ?_
  refine n_putF E hM hnm (o := 16) (q := 19) (Nat.le_of_ble_eq_true rfl) rfl ff_X9_18 rfl dX9_init_23 (fun H locs hM => ?_)
  obtain ⟨m3, hm3, he⟩ := g_let_ex he
  rw [← hm3] at hM
  refine lv_aload_n hx hb dX9_init_26 rfl (lv_at hl 0 rfl) ?_
  refine lv_iconst (v := (5 : Int32)) hx hb dX9_init_27 rfl ?_
  refine n_newa (ty := .int) (atype := .int) (L := 5) E hM (by omega) rfl ka_int rfl (Or.inl ⟨rfl, rfl⟩) (by decide) (by decide) (by decide) (Nat.le_of_ble_eq_true rfl) (Nat.le_of_ble_eq_true rfl) dX9_init_28 (fun H hM => ?_)
  refine W.eq (g2 := F0 m 30 ls [.ref (B + 20), .ref (B + 16)]) rfl ?_
  refine n_putF E hM hnm (o := 16) (q := 20) (Nat.le_of_ble_eq_true rfl) rfl ff_X9_21 rfl dX9_init_30 (fun H locs hM => ?_)
  obtain ⟨m4, hm4, he⟩ := g_let_ex he
  rw [← hm4] at hM
  refine lv_aload_n hx hb dX9_init_33 rfl (lv_at hl 0 rfl) ?_
  refine lv_iconst (v := (5 : Int32)) hx hb dX9_init_34 rfl ?_
  refine n_newa (ty := .int) (atype := .int) (L := 5) E hM (by omega) rfl ka_int rfl (Or.inl ⟨rfl, rfl⟩) (by decide) (by decide) (by decide) (Nat.le_of_ble_eq_true rfl) (Nat.le_of_ble_eq_true rfl) dX9_init_35 (fun H hM => ?_)
  refine W.eq (g2 := F0 m 37 ls [.ref (B + 21), .ref (B + 16)]) rfl ?_
  refine n_putF E hM hnm (o := 16) (q := 21) (Nat.le_of_ble_eq_true rfl) rfl ff_X9_24 rfl dX9_init_37 (fun H locs hM => ?_)
  obtain ⟨m5, hm5, he⟩ := g_let_ex he
  rw [← hm5] at hM
  refine lv_aload_n hx hb dX9_init_40 rfl (lv_at hl 0 rfl) ?_
  refine lv_iconst (v := (5 : Int32)) hx hb dX9_init_41 rfl ?_
  refine n_newa (ty := .int) (atype := .int) (L := 5) E hM (by omega) rfl ka_int rfl (Or.inl ⟨rfl, rfl⟩) (by decide) (by decide) (by decide) (Nat.le_of_ble_eq_true rfl) (Nat.le_of_ble_eq_true rfl) dX9_init_42 (fun H hM => ?_)
  refine W.eq (g2 := F0 m 44 ls [.ref (B + 22), .ref (B + 16)]) rfl ?_
  refine n_putF E hM hnm (o := 16) (q := 22) (Nat.le_of_ble_eq_true rfl) rfl ff_X9_27 rfl dX9_init_44 (fun H locs hM => ?_)
  obtain ⟨m6, hm6, he⟩ := g_let_ex he
  rw [← hm6] at hM
  refine lv_aload_n hx hb dX9_init_47 rfl (lv_at hl 0 rfl) ?_
  refine lv_iconst (v := (0 : Int32)) hx hb dX9_init_48 rfl ?_
  refine n_putI E hM (o := 16) (Nat.le_of_ble_eq_true rfl) rfl nfp_X9_30 dX9_init_49 (fun H locs hM => ?_)
  obtain ⟨m7, hm7, he⟩ := g_let_ex he
  rw [← hm7] at hM
  refine lv_aload_n hx hb dX9_init_52 rfl (lv_at hl 0 rfl) ?_
  refine lv_bipush (v := (48 : Int32)) hx hb dX9_init_53 rfl ?_
  refine n_newa (ty := .int) (atype := .int) (L := 48) E hM (by omega) rfl ka_int rfl (Or.inl ⟨rfl, rfl⟩) (by decide) (by decide) (by decide) (Nat.le_of_ble_eq_true rfl) (Nat.le_of_ble_eq_true rfl) dX9_init_55 (fun H hM => ?_)
  refine W.eq (g2 := F0 m 57 ls [.ref (B + 23), .ref (B + 16)]) rfl ?_
  refine n_putF E hM hnm (o := 16) (q := 23) (Nat.le_of_ble_eq_true rfl) rfl ff_X9_34 rfl dX9_init_57 (fun H locs hM => ?_)
  obtain ⟨m8, hm8, he⟩ := g_let_ex he
  rw [← hm8] at hM
  refine lv_aload_n hx hb dX9_init_60 rfl (lv_at hl 0 rfl) ?_
  refine lv_iconst (v := (0 : Int32)) hx hb dX9_init_61 rfl ?_
  refine n_putI E hM (o := 16) (Nat.le_of_ble_eq_true rfl) rfl nfp_X9_37 dX9_init_62 (fun H locs hM => ?_)
  obtain ⟨m9, hm9, he⟩ := g_let_ex he
  rw [← hm9] at hM
  refine lv_aload_n hx hb dX9_init_65 rfl (lv_at hl 0 rfl) ?_
  refine lv_bipush (v := (40 : Int32)) hx hb dX9_init_66 rfl ?_
  refine n_newa (ty := .int) (atype := .int) (L := 40) E hM (by omega) rfl ka_int rfl (Or.inl ⟨rfl, rfl⟩) (by decide) (by decide) (by decide) (Nat.le_of_ble_eq_true rfl) (Nat.le_of_ble_eq_true rfl) dX9_init_68 (fun H hM => ?_)
  refine W.eq (g2 := F0 m 70 ls [.ref (B + 24), .ref (B + 16)]) rfl ?_
  refine n_putF E hM hnm (o := 16) (q := 24) (Nat.le_of_ble_eq_true rfl) rfl ff_X9_40 rfl dX9_init_70 (fun H locs hM => ?_)
  obtain ⟨m10, hm10, he⟩ := g_let_ex he
  rw [← hm10] at hM
  refine lv_aload_n hx hb dX9_init_73 rfl (lv_at hl 0 rfl) ?_
  refine lv_bipush (v := (9 : Int32)) hx hb dX9_init_74 rfl ?_
  refine n_putI E hM (o := 16) (Nat.le_of_ble_eq_true rfl) rfl nfp_X9_43 dX9_init_76 (fun H locs hM => ?_)
  obtain ⟨m11, hm11, he⟩ := g_let_ex he
  rw [← hm11] at hM
  refine lv_aload_n hx hb dX9_init_79 rfl (lv_at hl 0 rfl) ?_
  refine lv_iconst (v := (0 : Int32)) hx hb dX9_init_80 rfl ?_
  refine n_putI E hM (o := 16) (Nat.le_of_ble_eq_true rfl) rfl nfp_X9_46 dX9_init_81 (fun H locs hM => ?_)
  obtain ⟨m12, hm12, he⟩ := g_let_ex he
  rw [← hm12] at hM
  refine lv_aload_n hx hb dX9_init_84 rfl (lv_at hl 0 rfl) ?_
  refine lv_iconst (v := (0 : Int32)) hx hb dX9_init_85 rfl ?_
  refine n_putI E hM (o := 16) (Nat.le_of_ble_eq_true rfl) rfl nfp_X9_49 dX9_init_86 (fun H locs hM => ?_)
  obtain ⟨m13, hm13, he⟩ := g_let_ex he
  rw [← hm13] at hM
  refine lv_aload_n hx hb dX9_init_89 rfl (lv_at hl 0 rfl) ?_
  refine n_new E hM (by omega) (ci := 2) rfl rfl kl_X9_52.1 kl_X9_52.2.1 kl_X9_52.2.2 (fun _ => rfl) (Nat.le_of_ble_eq_true rfl) (Nat.le_of_ble_eq_true rfl) dX9_init_90 (fun H hM => ?_)
  refine W.eq (g2 := F0 m 93 ls [.ref (B + 25), .ref (B + 16)]) rfl ?_
  refine lv_dup hx hb dX9_init_93 rfl ?_
  obtain ⟨r14, hcr14, he⟩ := g_bind he
  refine n_callIN [] (rest := [.ref (B + 25), .ref (B + 16)]) E hml hl.1 hM (by omega) E.2.2.2.2.2.2.2.1 cn_X2_init (c2_init_25 l D aC B hcr14) (by decide) (fun _ h => h.calling) (fun U hU hW => E.2.2.2.2.2.warm hW (fun q h1 h2 => by rw [hU]; exact hM.2.1.2.1 q h1 h2)) (by decide) (by decide) rfl rfl (Nat.le_of_ble_eq_true rfl) dX9_init_94 ⟨Nat.le_of_ble_eq_true rfl, Nat.le_of_ble_eq_true rfl⟩ (fun H locs hM => ?_)
  refine W.eq (g2 := F0 m 97 ls [.ref (B + 25), .ref (B + 16)]) rfl ?_
  refine n_putF E hM hnm (o := 16) (q := 25) (Nat.le_of_ble_eq_true rfl) rfl ff_X9_55 rfl dX9_init_97 (fun H locs hM => ?_)
  obtain ⟨m15, hm15, he⟩ := g_let_ex he
  rw [← hm15] at hM
  cases he
  exact n_vret E hM hret hlk dX9_init_100

set_option maxHeartbeats 4000000 in
set_option maxRecDepth 100000 in
theorem w8_init_31_b120 (E : g_C p s m args c cX8_init RX8 D aC (zN B)) (hml : c.maxLocals = 7) (hret : meth.sig.returnType = none) (hlk : meth.locks = false) {F : Nat} {q0 : g_M} {a1 : Nat} (ha1 : a1 < 32) (hYa1 : yC0.1 a1 = (53, 700)) {s53 : Int32 → Int32 → Int32 → Int32 → g_M → Option (g_M)} (hs53 : ∀ (v2 : Int32) (v3 : Int32) (v4 : Int32) (v5 : Int32) (mem : g_M) (H : Heap) (locs : List Loc) (ls : Array Slot), n_At D aC B yC0 33 mem s.heap H locs → lv_has ls 7 [(0, .ref (B + 31)), (2, .int v2), (3, .int v3), (4, .int v4), (5, .int v5)] → s53 v2 v3 v4 v5 mem = some q0 → W p l e (n_rm 6 1 22) s m args below meth c H locs 1 22 (MQ below (n_Post D aC B yC0 33 q0) args s 1 22 (n_A B)) (F0 m 53 ls [])) : ∀ (v2 : Int32) (v3 : Int32) (v4 : Int32) (v5 : Int32) (mem : g_M) (H : Heap) (locs : List Loc) (ls : Array Slot), n_At D aC B yC0 33 mem s.heap H locs → lv_has ls 7 [(0, .ref (B + 31)), (2, .int v2), (3, .int v3), (4, .int v4), (5, .int v5)] → f8_init_31_b120 F a1 s53 v2 v3 v4 v5 mem = some q0 → W p l e (n_rm 6 1 22) s m args below meth c H locs 1 22 (MQ below (n_Post D aC B yC0 33 q0) args s 1 22 (n_A B)) (F0 m 120 ls []) := by
  intro v2 v3 v4 v5 mem H locs ls hM hl he
  unfold f8_init_31_b120 at he
  have hx := E.1
  have hb := E.2.1
  have hown := E.2.2.1
  have hts := E.2.2.2.1
  obtain ⟨x1, hx1, he⟩ := g_let_ex he
  refine lv_iinc (v := x1) (lv' := [(5, .int x1), (0, .ref (B + 31)), (2, .int v2), (3, .int v3), (4, .int v4)]) hx hb dX8_init_120 hl (k := 4) rfl (by rw [hx1]; rfl) (by decide) rfl (fun ls hl => ?_)
  refine lv_goto (tgt := 53) hx hb dX8_init_123 (by decide) ?_
  exact hs53 _ _ _ _ _ _ _ _ hM (lv_sub hl [1, 2, 3, 4, 0] rfl) he

set_option maxHeartbeats 4000000 in
set_option maxRecDepth 100000 in
theorem w8_init_31_b53_body (E : g_C p s m args c cX8_init RX8 D aC (zN B)) (hml : c.maxLocals = 7) (hret : meth.sig.returnType = none) (hlk : meth.locks = false) {F : Nat} {q0 : g_M} {a1 : Nat} (ha1 : a1 < 32) (hYa1 : yC0.1 a1 = (53, 700)) {s53 : Int32 → Int32 → Int32 → Int32 → g_M → Option (g_M)} (hs53 : ∀ (v2 : Int32) (v3 : Int32) (v4 : Int32) (v5 : Int32) (mem : g_M) (H : Heap) (locs : List Loc) (ls : Array Slot), n_At D aC B yC0 33 mem s.heap H locs → lv_has ls 7 [(0, .ref (B + 31)), (2, .int v2), (3, .int v3), (4, .int v4), (5, .int v5)] → s53 v2 v3 v4 v5 mem = some q0 → W p l e (n_rm 6 1 22) s m args below meth c H locs 1 22 (MQ below (n_Post D aC B yC0 33 q0) args s 1 22 (n_A B)) (F0 m 53 ls [])) : ∀ (v2 : Int32) (v3 : Int32) (v4 : Int32) (v5 : Int32) (mem : g_M) (H : Heap) (locs : List Loc) (ls : Array Slot), n_At D aC B yC0 33 mem s.heap H locs → lv_has ls 7 [(0, .ref (B + 31)), (2, .int v2), (3, .int v3), (4, .int v4), (5, .int v5)] → f8_init_31_b53_body F a1 s53 v2 v3 v4 v5 mem = some q0 → W p l e (n_rm 6 1 22) s m args below meth c H locs 1 22 (MQ below (n_Post D aC B yC0 33 q0) args s 1 22 (n_A B)) (F0 m 53 ls []) := by
  intro v2 v3 v4 v5 mem H locs ls hM hl he
  unfold f8_init_31_b53_body at he
  have hx := E.1
  have hb := E.2.1
  have hown := E.2.2.1
  have hts := E.2.2.2.1
  refine lv_iload hx hb dX8_init_53 (lv_at hl 4 rfl) ?_
  obtain ⟨sa2, svsa2, hrsa2, hzsa2⟩ := E.2.2.2.2.2.1.2
  refine va_ldcS hx hb hown hrsa2 dX8_init_55 ?_
  refine n_callVX [] (rest := [.int v5]) E hml hl.1 hM sc_lenT (cs_length l D aC B yC0 33 sa2 svsa2 mem) hM.2.2.1 (n_SAcell hzsa2 hM) (fun _ h => h.calling) (n_SAat hzsa2 hM) (by decide) (by decide) rfl rfl (Nat.le_of_ble_eq_true rfl) dX8_init_57 ⟨Nat.le_of_ble_eq_true rfl, Nat.le_of_ble_eq_true rfl⟩ (fun H locs hM => ?_)
  refine W.eq (g2 := F0 m 60 ls [.int (107 : Int32), .int v5]) rfl ?_
  refine lv_icmp_ge (tgt := 126) hx hb dX8_init_60 (by decide) (fun h3 => ?_) (fun h3 => ?_)
  · rw [if_neg (Int32.not_lt.mpr h3)] at he
    cases he
    exact n_vret E hM hret hlk dX8_init_126
  · rw [if_pos (Int32.not_le.mp h3)] at he
    refine lv_iload_n hx hb dX8_init_63 rfl (lv_at hl 1 rfl) ?_
    refine lv_bipush (v := (22 : Int32)) hx hb dX8_init_64 rfl ?_
    refine lv_icmp_ge (tgt := 126) hx hb dX8_init_66 (by decide) (fun h4 => ?_) (fun h4 => ?_)
    · rw [if_neg (Int32.not_lt.mpr h4)] at he
      cases he
      exact n_vret E hM hret hlk dX8_init_126
    · rw [if_pos (Int32.not_le.mp h4)] at he
      obtain ⟨sa5, svsa5, hrsa5, hzsa5⟩ := E.2.2.2.2.2.1.2
      refine va_ldcS hx hb hown hrsa5 dX8_init_69 ?_
      refine lv_iload hx hb dX8_init_71 (lv_at hl 4 rfl) ?_
      obtain ⟨h6, he⟩ := g_ck_some he
      refine n_callVX [.int v5] (rest := []) E hml hl.1 hM sc_chrT (cs_charAt l D aC B yC0 33 v5 h6 sa5 svsa5 mem) hM.2.2.1 (n_SAcell hzsa5 hM) (fun _ h => h.calling) (n_SAat hzsa5 hM) (by decide) (by decide) rfl rfl (Nat.le_of_ble_eq_true rfl) dX8_init_73 ⟨Nat.le_of_ble_eq_true rfl, Nat.le_of_ble_eq_true rfl⟩ (fun H locs hM => ?_)
      refine W.eq (g2 := F0 m 76 ls [.int (g_wch v5.toNatClampNeg)]) rfl ?_
      obtain ⟨x7, hx7, he⟩ := g_let_ex he
      refine g_topI hx7 ?_
      refine lv_istore (lv' := [(6, .int x7), (0, .ref (B + 31)), (2, .int v2), (3, .int v3), (4, .int v4), (5, .int v5)]) hx hb dX8_init_76 hl (by decide) rfl (fun ls hl => ?_)
      refine lv_iload hx hb dX8_init_78 (lv_at hl 0 rfl) ?_
      refine lv_bipush (v := (32 : Int32)) hx hb dX8_init_80 rfl ?_
      refine lv_icmp_ne (tgt := 104) hx hb dX8_init_82 (by decide) (fun h8 => ?_) (fun h8 => ?_)
      · rw [if_neg h8] at he
        refine lv_iload_n hx hb dX8_init_104 rfl (lv_at hl 3 rfl) ?_
        refine lv_iload hx hb dX8_init_105 (lv_at hl 0 rfl) ?_
        refine lv_bipush (v := (97 : Int32)) hx hb dX8_init_107 rfl ?_
        refine lv_isub hx hb dX8_init_109 ?_
        refine lv_iconst (v := (1 : Int32)) hx hb dX8_init_110 rfl ?_
        refine lv_iadd hx hb dX8_init_111 ?_
        refine lv_iload hx hb dX8_init_112 (lv_at hl 4 rfl) ?_
        refine lv_ishl hx hb dX8_init_114 ?_
        refine lv_ior hx hb dX8_init_115 ?_
        obtain ⟨x13, hx13, he⟩ := g_let_ex he
        refine g_topI hx13 ?_
        refine lv_istore_n (lv' := [(3, .int x13), (6, .int x7), (0, .ref (B + 31)), (2, .int v2), (4, .int v4), (5, .int v5)]) hx hb dX8_init_116 rfl hl (by decide) rfl (fun ls hl => ?_)
        obtain ⟨x14, hx14, he⟩ := g_let_ex he
        refine lv_iinc (v := x14) (lv' := [(4, .int x14), (3, .int x13), (6, .int x7), (0, .ref (B + 31)), (2, .int v2), (5, .int v5)]) hx hb dX8_init_117 hl (k := 4) rfl (by rw [hx14]; rfl) (by decide) rfl (fun ls hl => ?_)
        exact w8_init_31_b120 (F := F) (a1 := a1) E hml hret hlk ha1 hYa1 hs53 _ _ _ _ _ _ _ _ hM (lv_sub hl [3, 4, 1, 0, 5] rfl) he
      · rw [if_pos h8] at he
        refine lv_aload_n hx hb dX8_init_85 rfl (lv_at hl 1 rfl) ?_
        obtain ⟨q9, hqq9, hq9, hYq9, he⟩ := g_dra_some he
        refine n_getD E hM (o := 31) (Nat.le_of_ble_eq_true rfl) rfl nfl_X8_27 rfl hqq9 dX8_init_86 ?_
        refine lv_iload_n hx hb dX8_init_89 rfl (lv_at hl 2 rfl) ?_
        refine lv_iload_n hx hb dX8_init_90 rfl (lv_at hl 3 rfl) ?_
        obtain ⟨h10, he⟩ := g_ck_some he
        refine n_iast E hM (o := q9) (by omega) hYq9 h10 dX8_init_91 (fun H locs hM => ?_)
        obtain ⟨m11, hm11, he⟩ := g_let_ex he
        rw [← hm11] at hM
        obtain ⟨x12, hx12, he⟩ := g_let_ex he
        refine lv_iinc (v := x12) (lv' := [(2, .int x12), (6, .int x7), (0, .ref (B + 31)), (3, .int v3), (4, .int v4), (5, .int v5)]) hx hb dX8_init_92 hl (k := 2) rfl (by rw [hx12]; rfl) (by decide) rfl (fun ls hl => ?_)
        refine lv_iconst (v := (0 : Int32)) hx hb dX8_init_95 rfl ?_
        refine lv_istore_n (lv' := [(3, .int (0 : Int32)), (2, .int x12), (6, .int x7), (0, .ref (B + 31)), (4, .int v4), (5, .int v5)]) hx hb dX8_init_96 rfl hl (by decide) rfl (fun ls hl => ?_)
        refine lv_bipush (v := (25 : Int32)) hx hb dX8_init_97 rfl ?_
        refine lv_istore (lv' := [(4, .int (25 : Int32)), (3, .int (0 : Int32)), (2, .int x12), (6, .int x7), (0, .ref (B + 31)), (5, .int v5)]) hx hb dX8_init_99 hl (by decide) rfl (fun ls hl => ?_)
        refine lv_goto (tgt := 120) hx hb dX8_init_101 (by decide) ?_
        exact w8_init_31_b120 (F := F) (a1 := a1) E hml hret hlk ha1 hYa1 hs53 _ _ _ _ _ _ _ _ hM (lv_sub hl [4, 2, 1, 0, 5] rfl) he

set_option maxHeartbeats 4000000 in
set_option maxRecDepth 100000 in
theorem w8_init_31_b53 (E : g_C p s m args c cX8_init RX8 D aC (zN B)) (hml : c.maxLocals = 7) (hret : meth.sig.returnType = none) (hlk : meth.locks = false) {F : Nat} {q0 : g_M} {a1 : Nat} (ha1 : a1 < 32) (hYa1 : yC0.1 a1 = (53, 700)) : ∀ (v2 : Int32) (v3 : Int32) (v4 : Int32) (v5 : Int32) (mem : g_M) (H : Heap) (locs : List Loc) (ls : Array Slot), n_At D aC B yC0 33 mem s.heap H locs → lv_has ls 7 [(0, .ref (B + 31)), (2, .int v2), (3, .int v3), (4, .int v4), (5, .int v5)] → f8_init_31_b53 F a1 v2 v3 v4 v5 mem = some q0 → W p l e (n_rm 6 1 22) s m args below meth c H locs 1 22 (MQ below (n_Post D aC B yC0 33 q0) args s 1 22 (n_A B)) (F0 m 53 ls []) := by
  have key : ∀ (nn : Nat) (x : Int32 × Int32 × Int32 × Int32 × g_M) (H : Heap) (locs : List Loc) (ls : Array Slot), n_At D aC B yC0 33 x.2.2.2.2 s.heap H locs → lv_has ls 7 [(0, .ref (B + 31)), (2, .int x.1), (3, .int x.2.1), (4, .int x.2.2.1), (5, .int x.2.2.2.1)] → g_fix (fun sf x => f8_init_31_b53_body F a1 (fun v2 v3 v4 v5 mem => sf (v2, v3, v4, v5, mem)) x.1 x.2.1 x.2.2.1 x.2.2.2.1 x.2.2.2.2) nn x = some q0 → W p l e (n_rm 6 1 22) s m args below meth c H locs 1 22 (MQ below (n_Post D aC B yC0 33 q0) args s 1 22 (n_A B)) (F0 m 53 ls []) := by
    intro nn
    induction nn with
    | zero => intro x H locs ls hM hl he; simp [g_fix] at he
    | succ nn ih =>
      intro x H locs ls hM hl he
      exact w8_init_31_b53_body (F := F) (a1 := a1) E hml hret hlk ha1 hYa1 (fun v2 v3 v4 v5 mem H locs ls hM hl he => ih (v2, v3, v4, v5, mem) H locs ls hM hl he) x.1 x.2.1 x.2.2.1 x.2.2.2.1 x.2.2.2.2 H locs ls hM hl he
  intro v2 v3 v4 v5 mem H locs ls hM hl he
  exact key F (v2, v3, v4, v5, mem) H locs ls hM hl he

set_option maxHeartbeats 4000000 in
set_option maxRecDepth 100000 in
theorem c8_init_31 (l : Launch) (D : va_G) (aC : Nat → ClassId) (B : Nat) {F : Nat} {a1 : Nat} (ha1 : a1 < 32) (hYa1 : yC0.1 a1 = (53, 700)) {mem : g_M} {q0 : g_M} (he : f8_init_31 F a1 mem = some q0) : n_Met l yX8_init cX8_init 7 6 1 22 D aC B yC0 32 33 (zN B) mem [.ref (B + 31), .ref (B + a1)] q0 := by
  refine n_ofW (by decide) rfl (by decide) (Nat.le_of_ble_eq_true rfl) ?_
  intro p e s m args below meth c ls E hml hret hlk hnm hsz hM hl
  have E : g_C p s m args c cX8_init RX8 D aC (zN B) := E
  have hx := E.1
  have hb := E.2.1
  have hown := E.2.2.1
  have hts := E.2.2.2.1
  have hl : lv_has ls 7 [(0, .ref (B + 31)), (1, .ref (B + a1))] := hl
  unfold f8_init_31 at he
  refine lv_aload_n hx hb dX8_init_0 rfl (lv_at hl 0 rfl) ?_
  refine W.objInit hx hb hown (hts _ oi_X8_3) (hts _ oi_inst) (hts _ oi_code) rfl (by rw [hml]; exact hl.1) rfl dX8_init_1 (Nat.le_of_ble_eq_true rfl) (Nat.le_of_ble_eq_true rfl) ?_
  refine W.eq (g2 := F0 m 4 ls []) rfl ?_
  refine lv_aload_n hx hb dX8_init_4 rfl (lv_at hl 0 rfl) ?_
  refine lv_iconst (v := (0 : Int32)) hx hb dX8_init_5 rfl ?_
  refine n_putI E hM (o := 31) (Nat.le_of_ble_eq_true rfl) rfl nfp_X8_11 dX8_init_6 (fun H locs hM => ?_)
  obtain ⟨m15, hm15, he⟩ := g_let_ex he
  rw [← hm15] at hM
  refine lv_aload_n hx hb dX8_init_9 rfl (lv_at hl 0 rfl) ?_
  refine lv_iconst (v := (0 : Int32)) hx hb dX8_init_10 rfl ?_
  refine n_putI E hM (o := 31) (Nat.le_of_ble_eq_true rfl) rfl nfp_X8_15 dX8_init_11 (fun H locs hM => ?_)
  obtain ⟨m16, hm16, he⟩ := g_let_ex he
  rw [← hm16] at hM
  refine lv_aload_n hx hb dX8_init_14 rfl (lv_at hl 0 rfl) ?_
  refine lv_iconst (v := (0 : Int32)) hx hb dX8_init_15 rfl ?_
  refine n_putI E hM (o := 31) (Nat.le_of_ble_eq_true rfl) rfl nfp_X8_18 dX8_init_16 (fun H locs hM => ?_)
  obtain ⟨m17, hm17, he⟩ := g_let_ex he
  rw [← hm17] at hM
  refine lv_aload_n hx hb dX8_init_19 rfl (lv_at hl 0 rfl) ?_
  refine lv_iconst (v := (0 : Int32)) hx hb dX8_init_20 rfl ?_
  refine n_putI E hM (o := 31) (Nat.le_of_ble_eq_true rfl) rfl nfp_X8_21 dX8_init_21 (fun H locs hM => ?_)
  obtain ⟨m18, hm18, he⟩ := g_let_ex he
  rw [← hm18] at hM
  refine lv_aload_n hx hb dX8_init_24 rfl (lv_at hl 0 rfl) ?_
  refine lv_iconst (v := (0 : Int32)) hx hb dX8_init_25 rfl ?_
  refine n_putI E hM (o := 31) (Nat.le_of_ble_eq_true rfl) rfl nfp_X8_24 dX8_init_26 (fun H locs hM => ?_)
  obtain ⟨m19, hm19, he⟩ := g_let_ex he
  rw [← hm19] at hM
  refine lv_aload_n hx hb dX8_init_29 rfl (lv_at hl 0 rfl) ?_
  refine lv_bipush (v := (22 : Int32)) hx hb dX8_init_30 rfl ?_
  refine n_newa (ty := .int) (atype := .int) (L := 22) E hM (by omega) rfl ka_int rfl (Or.inl ⟨rfl, rfl⟩) (by decide) (by decide) (by decide) (Nat.le_of_ble_eq_true rfl) (Nat.le_of_ble_eq_true rfl) dX8_init_32 (fun H hM => ?_)
  refine W.eq (g2 := F0 m 34 ls [.ref (B + 32), .ref (B + 31)]) rfl ?_
  refine n_putF E hM hnm (o := 31) (q := 32) (Nat.le_of_ble_eq_true rfl) rfl ff_X8_27 rfl dX8_init_34 (fun H locs hM => ?_)
  obtain ⟨m20, hm20, he⟩ := g_let_ex he
  rw [← hm20] at hM
  refine lv_aload_n hx hb dX8_init_37 rfl (lv_at hl 0 rfl) ?_
  refine lv_aload_n hx hb dX8_init_38 rfl (lv_at hl 1 rfl) ?_
  refine n_putF E hM hnm (o := 31) (q := a1) (Nat.le_of_ble_eq_true rfl) rfl ff_X8_31 rfl dX8_init_39 (fun H locs hM => ?_)
  obtain ⟨m21, hm21, he⟩ := g_let_ex he
  rw [← hm21] at hM
  refine lv_iconst (v := (0 : Int32)) hx hb dX8_init_42 rfl ?_
  refine lv_istore_n (lv' := [(2, .int (0 : Int32)), (0, .ref (B + 31)), (1, .ref (B + a1))]) hx hb dX8_init_43 rfl hl (by decide) rfl (fun ls hl => ?_)
  refine lv_iconst (v := (0 : Int32)) hx hb dX8_init_44 rfl ?_
  refine lv_istore_n (lv' := [(3, .int (0 : Int32)), (2, .int (0 : Int32)), (0, .ref (B + 31)), (1, .ref (B + a1))]) hx hb dX8_init_45 rfl hl (by decide) rfl (fun ls hl => ?_)
  refine lv_bipush (v := (25 : Int32)) hx hb dX8_init_46 rfl ?_
  refine lv_istore (lv' := [(4, .int (25 : Int32)), (3, .int (0 : Int32)), (2, .int (0 : Int32)), (0, .ref (B + 31)), (1, .ref (B + a1))]) hx hb dX8_init_48 hl (by decide) rfl (fun ls hl => ?_)
  refine lv_iconst (v := (0 : Int32)) hx hb dX8_init_50 rfl ?_
  refine lv_istore (lv' := [(5, .int (0 : Int32)), (4, .int (25 : Int32)), (3, .int (0 : Int32)), (2, .int (0 : Int32)), (0, .ref (B + 31)), (1, .ref (B + a1))]) hx hb dX8_init_51 hl (by decide) rfl (fun ls hl => ?_)
  exact w8_init_31_b53 (F := F) (a1 := a1) E hml hret hlk ha1 hYa1 _ _ _ _ _ _ _ _ hM (lv_sub hl [4, 3, 2, 1, 0] rfl) he

set_option maxHeartbeats 4000000 in
set_option maxRecDepth 100000 in
theorem c1_init_33 (l : Launch) (D : va_G) (aC : Nat → ClassId) (B : Nat) {F : Nat} {a1 : Nat} (ha1 : a1 < 34) (hYa1 : yC0.1 a1 = (8, 0)) {a2 : Nat} (ha2 : a2 < 34) (hYa2 : yC0.1 a2 = (2, 0)) {mem : g_M} {q0 : g_M} (he : f1_init_33 F a1 a2 mem = some q0) : n_Met l yX1_init cX1_init 3 1 1 72 D aC B yC0 34 35 (zN B) mem [.ref (B + 33), .ref (B + a1), .ref (B + a2)] q0 := by
  refine n_ofW (by decide) rfl (by decide) (Nat.le_of_ble_eq_true rfl) ?_
  intro p e s m args below meth c ls E hml hret hlk hnm hsz hM hl
  have E : g_C p s m args c cX1_init RX1 D aC (zN B) := E
  have hx := E.1
  have hb := E.2.1
  have hown := E.2.2.1
  have hts := E.2.2.2.1
  have hl : lv_has ls 3 [(0, .ref (B + 33)), (1, .ref (B + a1)), (2, .ref (B + a2))] := hl
  unfold f1_init_33 at he
  refine lv_aload_n hx hb dX1_init_0 rfl (lv_at hl 0 rfl) ?_
  refine W.objInit hx hb hown (hts _ oi_X1_3) (hts _ oi_inst) (hts _ oi_code) rfl (by rw [hml]; exact hl.1) rfl dX1_init_1 (Nat.le_of_ble_eq_true rfl) (Nat.le_of_ble_eq_true rfl) ?_
  refine W.eq (g2 := F0 m 4 ls []) rfl ?_
  refine lv_aload_n hx hb dX1_init_4 rfl (lv_at hl 0 rfl) ?_
  refine lv_bipush (v := (72 : Int32)) hx hb dX1_init_5 rfl ?_
  refine n_newa (ty := .int) (atype := .int) (L := 72) E hM (by omega) rfl ka_int rfl (Or.inl ⟨rfl, rfl⟩) (by decide) (by decide) (by decide) (Nat.le_of_ble_eq_true rfl) (Nat.le_of_ble_eq_true rfl) dX1_init_7 (fun H hM => ?_)
  refine W.eq (g2 := F0 m 9 ls [.ref (B + 34), .ref (B + 33)]) rfl ?_
  refine n_putF E hM hnm (o := 33) (q := 34) (Nat.le_of_ble_eq_true rfl) rfl ff_X1_13 rfl dX1_init_9 (fun H locs hM => ?_)
  obtain ⟨m1, hm1, he⟩ := g_let_ex he
  rw [← hm1] at hM
  refine lv_aload_n hx hb dX1_init_12 rfl (lv_at hl 0 rfl) ?_
  refine lv_iconst (v := (0 : Int32)) hx hb dX1_init_13 rfl ?_
  refine n_putI E hM (o := 33) (Nat.le_of_ble_eq_true rfl) rfl nfp_X1_17 dX1_init_14 (fun H locs hM => ?_)
  obtain ⟨m2, hm2, he⟩ := g_let_ex he
  rw [← hm2] at hM
  refine lv_aload_n hx hb dX1_init_17 rfl (lv_at hl 0 rfl) ?_
  refine lv_iconst (v := (0 : Int32)) hx hb dX1_init_18 rfl ?_
  refine n_putI E hM (o := 33) (Nat.le_of_ble_eq_true rfl) rfl nfp_X1_21 dX1_init_19 (fun H locs hM => ?_)
  obtain ⟨m3, hm3, he⟩ := g_let_ex he
  rw [← hm3] at hM
  refine lv_aload_n hx hb dX1_init_22 rfl (lv_at hl 0 rfl) ?_
  refine lv_iconst (v := (0 : Int32)) hx hb dX1_init_23 rfl ?_
  refine n_putI E hM (o := 33) (Nat.le_of_ble_eq_true rfl) rfl nfp_X1_24 dX1_init_24 (fun H locs hM => ?_)
  obtain ⟨m4, hm4, he⟩ := g_let_ex he
  rw [← hm4] at hM
  refine lv_aload_n hx hb dX1_init_27 rfl (lv_at hl 0 rfl) ?_
  refine lv_iconst (v := (1 : Int32)) hx hb dX1_init_28 rfl ?_
  refine n_putZ E hM (o := 33) (Nat.le_of_ble_eq_true rfl) rfl nfp_X1_27 (Or.inr rfl) dX1_init_29 (fun H locs hM => ?_)
  obtain ⟨m5, hm5, he⟩ := g_let_ex he
  rw [← hm5] at hM
  refine lv_aload_n hx hb dX1_init_32 rfl (lv_at hl 0 rfl) ?_
  refine lv_aload_n hx hb dX1_init_33 rfl (lv_at hl 1 rfl) ?_
  refine n_putF E hM hnm (o := 33) (q := a1) (Nat.le_of_ble_eq_true rfl) rfl ff_X1_31 rfl dX1_init_34 (fun H locs hM => ?_)
  obtain ⟨m6, hm6, he⟩ := g_let_ex he
  rw [← hm6] at hM
  refine lv_aload_n hx hb dX1_init_37 rfl (lv_at hl 0 rfl) ?_
  refine lv_aload_n hx hb dX1_init_38 rfl (lv_at hl 2 rfl) ?_
  refine n_putR E hM (o := 33) (q := a2) (Nat.le_of_ble_eq_true rfl) rfl nfp_X1_35 rfl dX1_init_39 (fun H locs hM => ?_)
  obtain ⟨m7, hm7, he⟩ := g_let_ex he
  rw [← hm7] at hM
  cases he
  exact n_vret E hM hret hlk dX1_init_42

set_option maxHeartbeats 4000000 in
set_option maxRecDepth 100000 in
theorem c5_init_30 (l : Launch) (D : va_G) (aC : Nat → ClassId) (B : Nat) {F : Nat} {a1 : Nat} (ha1 : a1 < 31) (hYa1 : yC0.1 a1 = (53, 700)) {a2 : Nat} (ha2 : a2 < 31) (hYa2 : yC0.1 a2 = (9, 0)) {mem : g_M} {q0 : g_M} (he : f5_init_30 F a1 a2 mem = some q0) : n_Met l yX5_init cX5_init 3 7 4 108 D aC B yC0 31 35 (zN B) mem [.ref (B + 30), .ref (B + a1), .ref (B + a2)] q0 := by
  refine n_ofW (by decide) rfl (by decide) (Nat.le_of_ble_eq_true rfl) ?_
  intro p e s m args below meth c ls E hml hret hlk hnm hsz hM hl
  have E : g_C p s m args c cX5_init RX5 D aC (zN B) := E
  have hx := E.1
  have hb := E.2.1
  have hown := E.2.2.1
  have hts := E.2.2.2.1
  have hl : lv_has ls 3 [(0, .ref (B + 30)), (1, .ref (B + a1)), (2, .ref (B + a2))] := hl
  unfold f5_init_30 at he
  refine lv_aload_n hx hb dX5_init_0 rfl (lv_at hl 0 rfl) ?_
  refine W.objInit hx hb hown (hts _ oi_X5_3) (hts _ oi_inst) (hts _ oi_code) rfl (by rw [hml]; exact hl.1) rfl dX5_init_1 (Nat.le_of_ble_eq_true rfl) (Nat.le_of_ble_eq_true rfl) ?_
  refine W.eq (g2 := F0 m 4 ls []) rfl ?_
  refine lv_aload_n hx hb dX5_init_4 rfl (lv_at hl 0 rfl) ?_
  refine lv_iconst (v := (0 : Int32)) hx hb dX5_init_5 rfl ?_
  refine n_putI E hM (o := 30) (Nat.le_of_ble_eq_true rfl) rfl nfp_X5_9 dX5_init_6 (fun H locs hM => ?_)
  obtain ⟨m1, hm1, he⟩ := g_let_ex he
  rw [← hm1] at hM
  refine lv_aload_n hx hb dX5_init_9 rfl (lv_at hl 0 rfl) ?_
  refine lv_iconst (v := (-1 : Int32)) hx hb dX5_init_10 rfl ?_
  refine n_putI E hM (o := 30) (Nat.le_of_ble_eq_true rfl) rfl nfp_X5_15 dX5_init_11 (fun H locs hM => ?_)
  obtain ⟨m2, hm2, he⟩ := g_let_ex he
  rw [← hm2] at hM
  refine lv_aload_n hx hb dX5_init_14 rfl (lv_at hl 0 rfl) ?_
  refine lv_iconst (v := (0 : Int32)) hx hb dX5_init_15 rfl ?_
  refine n_putI E hM (o := 30) (Nat.le_of_ble_eq_true rfl) rfl nfp_X5_18 dX5_init_16 (fun H locs hM => ?_)
  obtain ⟨m3, hm3, he⟩ := g_let_ex he
  rw [← hm3] at hM
  refine lv_aload_n hx hb dX5_init_19 rfl (lv_at hl 0 rfl) ?_
  refine lv_iconst (v := (0 : Int32)) hx hb dX5_init_20 rfl ?_
  refine n_putZ E hM (o := 30) (Nat.le_of_ble_eq_true rfl) rfl nfp_X5_21 (Or.inl rfl) dX5_init_21 (fun H locs hM => ?_)
  obtain ⟨m4, hm4, he⟩ := g_let_ex he
  rw [← hm4] at hM
  refine lv_aload_n hx hb dX5_init_24 rfl (lv_at hl 0 rfl) ?_
  refine lv_iconst (v := (0 : Int32)) hx hb dX5_init_25 rfl ?_
  refine n_putZ E hM (o := 30) (Nat.le_of_ble_eq_true rfl) rfl nfp_X5_25 (Or.inl rfl) dX5_init_26 (fun H locs hM => ?_)
  obtain ⟨m5, hm5, he⟩ := g_let_ex he
  rw [← hm5] at hM
  refine lv_aload_n hx hb dX5_init_29 rfl (lv_at hl 0 rfl) ?_
  refine lv_iconst (v := (0 : Int32)) hx hb dX5_init_30 rfl ?_
  refine n_putZ E hM (o := 30) (Nat.le_of_ble_eq_true rfl) rfl nfp_X5_28 (Or.inl rfl) dX5_init_31 (fun H locs hM => ?_)
  obtain ⟨m6, hm6, he⟩ := g_let_ex he
  rw [← hm6] at hM
  refine lv_aload_n hx hb dX5_init_34 rfl (lv_at hl 0 rfl) ?_
  refine lv_aload_n hx hb dX5_init_35 rfl (lv_at hl 2 rfl) ?_
  refine n_putR E hM (o := 30) (q := a2) (Nat.le_of_ble_eq_true rfl) rfl nfp_X5_31 rfl dX5_init_36 (fun H locs hM => ?_)
  obtain ⟨m7, hm7, he⟩ := g_let_ex he
  rw [← hm7] at hM
  refine lv_aload_n hx hb dX5_init_39 rfl (lv_at hl 0 rfl) ?_
  refine n_new E hM (by omega) (ci := 8) rfl rfl kl_X5_35.1 kl_X5_35.2.1 kl_X5_35.2.2 (fun _ => rfl) (Nat.le_of_ble_eq_true rfl) (Nat.le_of_ble_eq_true rfl) dX5_init_40 (fun H hM => ?_)
  refine W.eq (g2 := F0 m 43 ls [.ref (B + 31), .ref (B + 30)]) rfl ?_
  refine lv_dup hx hb dX5_init_43 rfl ?_
  refine lv_aload_n hx hb dX5_init_44 rfl (lv_at hl 1 rfl) ?_
  obtain ⟨r8, hcr8, he⟩ := g_bind he
  refine n_callI [.ref (B + a1)] (rest := [.ref (B + 31), .ref (B + 30)]) E hml hl.1 hM (by omega) ci_X5_37 (c8_init_31 l D aC B (by omega) hYa1 hcr8) (by decide) (fun _ h => h.calling) (fun U hU hW => E.2.2.2.2.2.warm hW (fun q h1 h2 => by rw [hU]; exact hM.2.1.2.1 q h1 h2)) (by decide) (by decide) rfl rfl (Nat.le_of_ble_eq_true rfl) dX5_init_45 ⟨Nat.le_of_ble_eq_true rfl, Nat.le_of_ble_eq_true rfl⟩ (fun H locs hM => ?_)
  refine W.eq (g2 := F0 m 48 ls [.ref (B + 31), .ref (B + 30)]) rfl ?_
  refine n_putF E hM hnm (o := 30) (q := 31) (Nat.le_of_ble_eq_true rfl) rfl ff_X5_40 rfl dX5_init_48 (fun H locs hM => ?_)
  obtain ⟨m9, hm9, he⟩ := g_let_ex he
  rw [← hm9] at hM
  refine lv_aload_n hx hb dX5_init_51 rfl (lv_at hl 0 rfl) ?_
  refine n_new E hM (by omega) (ci := 1) rfl rfl kl_X5_44.1 kl_X5_44.2.1 kl_X5_44.2.2 (fun _ => rfl) (Nat.le_of_ble_eq_true rfl) (Nat.le_of_ble_eq_true rfl) dX5_init_52 (fun H hM => ?_)
  refine W.eq (g2 := F0 m 55 ls [.ref (B + 33), .ref (B + 30)]) rfl ?_
  refine lv_dup hx hb dX5_init_55 rfl ?_
  refine lv_aload_n hx hb dX5_init_56 rfl (lv_at hl 0 rfl) ?_
  obtain ⟨q10, hqq10, hq10, hYq10, he⟩ := g_dr_some he
  refine n_getD E hM (o := 30) (Nat.le_of_ble_eq_true rfl) rfl nfl_X5_40 rfl hqq10 dX5_init_57 ?_
  refine lv_aload_n hx hb dX5_init_60 rfl (lv_at hl 2 rfl) ?_
  obtain ⟨q11, hqq11, hq11, hYq11, he⟩ := g_dr_some he
  refine n_getD E hM (o := a2) (by omega) hYa2 nfl_X5_46 rfl hqq11 dX5_init_61 ?_
  obtain ⟨r12, hcr12, he⟩ := g_bind he
  refine n_callI [.ref (B + q10), .ref (B + q11)] (rest := [.ref (B + 33), .ref (B + 30)]) E hml hl.1 hM (by omega) ci_X5_52 (c1_init_33 l D aC B (by omega) hYq10 (by omega) hYq11 hcr12) (by decide) (fun _ h => h.calling) (fun U hU hW => E.2.2.2.2.2.warm hW (fun q h1 h2 => by rw [hU]; exact hM.2.1.2.1 q h1 h2)) (by decide) (by decide) rfl rfl (Nat.le_of_ble_eq_true rfl) dX5_init_64 ⟨Nat.le_of_ble_eq_true rfl, Nat.le_of_ble_eq_true rfl⟩ (fun H locs hM => ?_)
  refine W.eq (g2 := F0 m 67 ls [.ref (B + 33), .ref (B + 30)]) rfl ?_
  refine n_putF E hM hnm (o := 30) (q := 33) (Nat.le_of_ble_eq_true rfl) rfl ff_X5_55 rfl dX5_init_67 (fun H locs hM => ?_)
  obtain ⟨m13, hm13, he⟩ := g_let_ex he
  rw [← hm13] at hM
  cases he
  exact n_vret E hM hret hlk dX5_init_70

set_option maxHeartbeats 4000000 in
set_option maxRecDepth 100000 in
theorem c7_init_35 (l : Launch) (D : va_G) (aC : Nat → ClassId) (B : Nat) {F : Nat} {a1 : Nat} (ha1 : a1 < 36) (hYa1 : yC0.1 a1 = (9, 0)) {mem : g_M} {q0 : g_M} (he : f7_init_35 F a1 mem = some q0) : n_Met l yX7_init cX7_init 2 1 5 111 D aC B yC0 36 41 (zN B) mem [.ref (B + 35), .ref (B + a1)] q0 := by
  refine n_ofW (by decide) rfl (by decide) (Nat.le_of_ble_eq_true rfl) ?_
  intro p e s m args below meth c ls E hml hret hlk hnm hsz hM hl
  have E : g_C p s m args c cX7_init RX7 D aC (zN B) := E
  have hx := E.1
  have hb := E.2.1
  have hown := E.2.2.1
  have hts := E.2.2.2.1
  have hl : lv_has ls 2 [(0, .ref (B + 35)), (1, .ref (B + a1))] := hl
  unfold f7_init_35 at he
  refine lv_aload_n hx hb dX7_init_0 rfl (lv_at hl 0 rfl) ?_
  refine W.objInit hx hb hown (hts _ oi_X7_3) (hts _ oi_inst) (hts _ oi_code) rfl (by rw [hml]; exact hl.1) rfl dX7_init_1 (Nat.le_of_ble_eq_true rfl) (Nat.le_of_ble_eq_true rfl) ?_
  refine W.eq (g2 := F0 m 4 ls []) rfl ?_
  refine lv_aload_n hx hb dX7_init_4 rfl (lv_at hl 0 rfl) ?_
  refine lv_iconst (v := (0 : Int32)) hx hb dX7_init_5 rfl ?_
  refine n_putI E hM (o := 35) (Nat.le_of_ble_eq_true rfl) rfl nfp_X7_9 dX7_init_6 (fun H locs hM => ?_)
  obtain ⟨m1, hm1, he⟩ := g_let_ex he
  rw [← hm1] at hM
  refine lv_aload_n hx hb dX7_init_9 rfl (lv_at hl 0 rfl) ?_
  refine lv_iconst (v := (0 : Int32)) hx hb dX7_init_10 rfl ?_
  refine n_putI E hM (o := 35) (Nat.le_of_ble_eq_true rfl) rfl nfp_X7_15 dX7_init_11 (fun H locs hM => ?_)
  obtain ⟨m2, hm2, he⟩ := g_let_ex he
  rw [← hm2] at hM
  refine lv_aload_n hx hb dX7_init_14 rfl (lv_at hl 0 rfl) ?_
  refine lv_iconst (v := (0 : Int32)) hx hb dX7_init_15 rfl ?_
  refine n_putI E hM (o := 35) (Nat.le_of_ble_eq_true rfl) rfl nfp_X7_18 dX7_init_16 (fun H locs hM => ?_)
  obtain ⟨m3, hm3, he⟩ := g_let_ex he
  rw [← hm3] at hM
  refine lv_aload_n hx hb dX7_init_19 rfl (lv_at hl 0 rfl) ?_
  refine lv_iconst (v := (5 : Int32)) hx hb dX7_init_20 rfl ?_
  refine n_newa (ty := .int) (atype := .int) (L := 5) E hM (by omega) rfl ka_int rfl (Or.inl ⟨rfl, rfl⟩) (by decide) (by decide) (by decide) (Nat.le_of_ble_eq_true rfl) (Nat.le_of_ble_eq_true rfl) dX7_init_21 (fun H hM => ?_)
  refine W.eq (g2 := F0 m 23 ls [.ref (B + 36), .ref (B + 35)]) rfl ?_
  refine n_putF E hM hnm (o := 35) (q := 36) (Nat.le_of_ble_eq_true rfl) rfl ff_X7_21 rfl dX7_init_23 (fun H locs hM => ?_)
  obtain ⟨m4, hm4, he⟩ := g_let_ex he
  rw [← hm4] at hM
  refine lv_aload_n hx hb dX7_init_26 rfl (lv_at hl 0 rfl) ?_
  refine lv_bipush (v := (25 : Int32)) hx hb dX7_init_27 rfl ?_
  refine n_newa (ty := .int) (atype := .int) (L := 25) E hM (by omega) rfl ka_int rfl (Or.inl ⟨rfl, rfl⟩) (by decide) (by decide) (by decide) (Nat.le_of_ble_eq_true rfl) (Nat.le_of_ble_eq_true rfl) dX7_init_29 (fun H hM => ?_)
  refine W.eq (g2 := F0 m 31 ls [.ref (B + 37), .ref (B + 35)]) rfl ?_
  refine n_putF E hM hnm (o := 35) (q := 37) (Nat.le_of_ble_eq_true rfl) rfl ff_X7_25 rfl dX7_init_31 (fun H locs hM => ?_)
  obtain ⟨m5, hm5, he⟩ := g_let_ex he
  rw [← hm5] at hM
  refine lv_aload_n hx hb dX7_init_34 rfl (lv_at hl 0 rfl) ?_
  refine lv_bipush (v := (25 : Int32)) hx hb dX7_init_35 rfl ?_
  refine n_newa (ty := .int) (atype := .int) (L := 25) E hM (by omega) rfl ka_int rfl (Or.inl ⟨rfl, rfl⟩) (by decide) (by decide) (by decide) (Nat.le_of_ble_eq_true rfl) (Nat.le_of_ble_eq_true rfl) dX7_init_37 (fun H hM => ?_)
  refine W.eq (g2 := F0 m 39 ls [.ref (B + 38), .ref (B + 35)]) rfl ?_
  refine n_putF E hM hnm (o := 35) (q := 38) (Nat.le_of_ble_eq_true rfl) rfl ff_X7_28 rfl dX7_init_39 (fun H locs hM => ?_)
  obtain ⟨m6, hm6, he⟩ := g_let_ex he
  rw [← hm6] at hM
  refine lv_aload_n hx hb dX7_init_42 rfl (lv_at hl 0 rfl) ?_
  refine lv_iconst (v := (0 : Int32)) hx hb dX7_init_43 rfl ?_
  refine n_putI E hM (o := 35) (Nat.le_of_ble_eq_true rfl) rfl nfp_X7_31 dX7_init_44 (fun H locs hM => ?_)
  obtain ⟨m7, hm7, he⟩ := g_let_ex he
  rw [← hm7] at hM
  refine lv_aload_n hx hb dX7_init_47 rfl (lv_at hl 0 rfl) ?_
  refine lv_bipush (v := (48 : Int32)) hx hb dX7_init_48 rfl ?_
  refine n_newa (ty := .int) (atype := .int) (L := 48) E hM (by omega) rfl ka_int rfl (Or.inl ⟨rfl, rfl⟩) (by decide) (by decide) (by decide) (Nat.le_of_ble_eq_true rfl) (Nat.le_of_ble_eq_true rfl) dX7_init_50 (fun H hM => ?_)
  refine W.eq (g2 := F0 m 52 ls [.ref (B + 39), .ref (B + 35)]) rfl ?_
  refine n_putF E hM hnm (o := 35) (q := 39) (Nat.le_of_ble_eq_true rfl) rfl ff_X7_34 rfl dX7_init_52 (fun H locs hM => ?_)
  obtain ⟨m8, hm8, he⟩ := g_let_ex he
  rw [← hm8] at hM
  refine lv_aload_n hx hb dX7_init_55 rfl (lv_at hl 0 rfl) ?_
  refine lv_bipush (v := (8 : Int32)) hx hb dX7_init_56 rfl ?_
  refine n_newa (ty := .int) (atype := .int) (L := 8) E hM (by omega) rfl ka_int rfl (Or.inl ⟨rfl, rfl⟩) (by decide) (by decide) (by decide) (Nat.le_of_ble_eq_true rfl) (Nat.le_of_ble_eq_true rfl) dX7_init_58 (fun H hM => ?_)
  refine W.eq (g2 := F0 m 60 ls [.ref (B + 40), .ref (B + 35)]) rfl ?_
  refine n_putF E hM hnm (o := 35) (q := 40) (Nat.le_of_ble_eq_true rfl) rfl ff_X7_37 rfl dX7_init_60 (fun H locs hM => ?_)
  obtain ⟨m9, hm9, he⟩ := g_let_ex he
  rw [← hm9] at hM
  refine lv_aload_n hx hb dX7_init_63 rfl (lv_at hl 0 rfl) ?_
  refine lv_aload_n hx hb dX7_init_64 rfl (lv_at hl 1 rfl) ?_
  refine n_putR E hM (o := 35) (q := a1) (Nat.le_of_ble_eq_true rfl) rfl nfp_X7_40 rfl dX7_init_65 (fun H locs hM => ?_)
  obtain ⟨m10, hm10, he⟩ := g_let_ex he
  rw [← hm10] at hM
  cases he
  exact n_vret E hM hret hlk dX7_init_68

set_option maxHeartbeats 4000000 in
set_option maxRecDepth 100000 in
theorem c7_init_41 (l : Launch) (D : va_G) (aC : Nat → ClassId) (B : Nat) {F : Nat} {a1 : Nat} (ha1 : a1 < 42) (hYa1 : yC0.1 a1 = (9, 0)) {mem : g_M} {q0 : g_M} (he : f7_init_41 F a1 mem = some q0) : n_Met l yX7_init cX7_init 2 1 5 111 D aC B yC0 42 47 (zN B) mem [.ref (B + 41), .ref (B + a1)] q0 := by
  refine n_ofW (by decide) rfl (by decide) (Nat.le_of_ble_eq_true rfl) ?_
  intro p e s m args below meth c ls E hml hret hlk hnm hsz hM hl
  have E : g_C p s m args c cX7_init RX7 D aC (zN B) := E
  have hx := E.1
  have hb := E.2.1
  have hown := E.2.2.1
  have hts := E.2.2.2.1
  have hl : lv_has ls 2 [(0, .ref (B + 41)), (1, .ref (B + a1))] := hl
  unfold f7_init_41 at he
  refine lv_aload_n hx hb dX7_init_0 rfl (lv_at hl 0 rfl) ?_
  refine W.objInit hx hb hown (hts _ oi_X7_3) (hts _ oi_inst) (hts _ oi_code) rfl (by rw [hml]; exact hl.1) rfl dX7_init_1 (Nat.le_of_ble_eq_true rfl) (Nat.le_of_ble_eq_true rfl) ?_
  refine W.eq (g2 := F0 m 4 ls []) rfl ?_
  refine lv_aload_n hx hb dX7_init_4 rfl (lv_at hl 0 rfl) ?_
  refine lv_iconst (v := (0 : Int32)) hx hb dX7_init_5 rfl ?_
  refine n_putI E hM (o := 41) (Nat.le_of_ble_eq_true rfl) rfl nfp_X7_9 dX7_init_6 (fun H locs hM => ?_)
  obtain ⟨m1, hm1, he⟩ := g_let_ex he
  rw [← hm1] at hM
  refine lv_aload_n hx hb dX7_init_9 rfl (lv_at hl 0 rfl) ?_
  refine lv_iconst (v := (0 : Int32)) hx hb dX7_init_10 rfl ?_
  refine n_putI E hM (o := 41) (Nat.le_of_ble_eq_true rfl) rfl nfp_X7_15 dX7_init_11 (fun H locs hM => ?_)
  obtain ⟨m2, hm2, he⟩ := g_let_ex he
  rw [← hm2] at hM
  refine lv_aload_n hx hb dX7_init_14 rfl (lv_at hl 0 rfl) ?_
  refine lv_iconst (v := (0 : Int32)) hx hb dX7_init_15 rfl ?_
  refine n_putI E hM (o := 41) (Nat.le_of_ble_eq_true rfl) rfl nfp_X7_18 dX7_init_16 (fun H locs hM => ?_)
  obtain ⟨m3, hm3, he⟩ := g_let_ex he
  rw [← hm3] at hM
  refine lv_aload_n hx hb dX7_init_19 rfl (lv_at hl 0 rfl) ?_
  refine lv_iconst (v := (5 : Int32)) hx hb dX7_init_20 rfl ?_
  refine n_newa (ty := .int) (atype := .int) (L := 5) E hM (by omega) rfl ka_int rfl (Or.inl ⟨rfl, rfl⟩) (by decide) (by decide) (by decide) (Nat.le_of_ble_eq_true rfl) (Nat.le_of_ble_eq_true rfl) dX7_init_21 (fun H hM => ?_)
  refine W.eq (g2 := F0 m 23 ls [.ref (B + 42), .ref (B + 41)]) rfl ?_
  refine n_putF E hM hnm (o := 41) (q := 42) (Nat.le_of_ble_eq_true rfl) rfl ff_X7_21 rfl dX7_init_23 (fun H locs hM => ?_)
  obtain ⟨m4, hm4, he⟩ := g_let_ex he
  rw [← hm4] at hM
  refine lv_aload_n hx hb dX7_init_26 rfl (lv_at hl 0 rfl) ?_
  refine lv_bipush (v := (25 : Int32)) hx hb dX7_init_27 rfl ?_
  refine n_newa (ty := .int) (atype := .int) (L := 25) E hM (by omega) rfl ka_int rfl (Or.inl ⟨rfl, rfl⟩) (by decide) (by decide) (by decide) (Nat.le_of_ble_eq_true rfl) (Nat.le_of_ble_eq_true rfl) dX7_init_29 (fun H hM => ?_)
  refine W.eq (g2 := F0 m 31 ls [.ref (B + 43), .ref (B + 41)]) rfl ?_
  refine n_putF E hM hnm (o := 41) (q := 43) (Nat.le_of_ble_eq_true rfl) rfl ff_X7_25 rfl dX7_init_31 (fun H locs hM => ?_)
  obtain ⟨m5, hm5, he⟩ := g_let_ex he
  rw [← hm5] at hM
  refine lv_aload_n hx hb dX7_init_34 rfl (lv_at hl 0 rfl) ?_
  refine lv_bipush (v := (25 : Int32)) hx hb dX7_init_35 rfl ?_
  refine n_newa (ty := .int) (atype := .int) (L := 25) E hM (by omega) rfl ka_int rfl (Or.inl ⟨rfl, rfl⟩) (by decide) (by decide) (by decide) (Nat.le_of_ble_eq_true rfl) (Nat.le_of_ble_eq_true rfl) dX7_init_37 (fun H hM => ?_)
  refine W.eq (g2 := F0 m 39 ls [.ref (B + 44), .ref (B + 41)]) rfl ?_
  refine n_putF E hM hnm (o := 41) (q := 44) (Nat.le_of_ble_eq_true rfl) rfl ff_X7_28 rfl dX7_init_39 (fun H locs hM => ?_)
  obtain ⟨m6, hm6, he⟩ := g_let_ex he
  rw [← hm6] at hM
  refine lv_aload_n hx hb dX7_init_42 rfl (lv_at hl 0 rfl) ?_
  refine lv_iconst (v := (0 : Int32)) hx hb dX7_init_43 rfl ?_
  refine n_putI E hM (o := 41) (Nat.le_of_ble_eq_true rfl) rfl nfp_X7_31 dX7_init_44 (fun H locs hM => ?_)
  obtain ⟨m7, hm7, he⟩ := g_let_ex he
  rw [← hm7] at hM
  refine lv_aload_n hx hb dX7_init_47 rfl (lv_at hl 0 rfl) ?_
  refine lv_bipush (v := (48 : Int32)) hx hb dX7_init_48 rfl ?_
  refine n_newa (ty := .int) (atype := .int) (L := 48) E hM (by omega) rfl ka_int rfl (Or.inl ⟨rfl, rfl⟩) (by decide) (by decide) (by decide) (Nat.le_of_ble_eq_true rfl) (Nat.le_of_ble_eq_true rfl) dX7_init_50 (fun H hM => ?_)
  refine W.eq (g2 := F0 m 52 ls [.ref (B + 45), .ref (B + 41)]) rfl ?_
  refine n_putF E hM hnm (o := 41) (q := 45) (Nat.le_of_ble_eq_true rfl) rfl ff_X7_34 rfl dX7_init_52 (fun H locs hM => ?_)
  obtain ⟨m8, hm8, he⟩ := g_let_ex he
  rw [← hm8] at hM
  refine lv_aload_n hx hb dX7_init_55 rfl (lv_at hl 0 rfl) ?_
  refine lv_bipush (v := (8 : Int32)) hx hb dX7_init_56 rfl ?_
  refine n_newa (ty := .int) (atype := .int) (L := 8) E hM (by omega) rfl ka_int rfl (Or.inl ⟨rfl, rfl⟩) (by decide) (by decide) (by decide) (Nat.le_of_ble_eq_true rfl) (Nat.le_of_ble_eq_true rfl) dX7_init_58 (fun H hM => ?_)
  refine W.eq (g2 := F0 m 60 ls [.ref (B + 46), .ref (B + 41)]) rfl ?_
  refine n_putF E hM hnm (o := 41) (q := 46) (Nat.le_of_ble_eq_true rfl) rfl ff_X7_37 rfl dX7_init_60 (fun H locs hM => ?_)
  obtain ⟨m9, hm9, he⟩ := g_let_ex he
  rw [← hm9] at hM
  refine lv_aload_n hx hb dX7_init_63 rfl (lv_at hl 0 rfl) ?_
  refine lv_aload_n hx hb dX7_init_64 rfl (lv_at hl 1 rfl) ?_
  refine n_putR E hM (o := 41) (q := a1) (Nat.le_of_ble_eq_true rfl) rfl nfp_X7_40 rfl dX7_init_65 (fun H locs hM => ?_)
  obtain ⟨m10, hm10, he⟩ := g_let_ex he
  rw [← hm10] at hM
  cases he
  exact n_vret E hM hret hlk dX7_init_68

set_option maxHeartbeats 4000000 in
set_option maxRecDepth 100000 in
theorem c7_init_47 (l : Launch) (D : va_G) (aC : Nat → ClassId) (B : Nat) {F : Nat} {a1 : Nat} (ha1 : a1 < 48) (hYa1 : yC0.1 a1 = (9, 0)) {mem : g_M} {q0 : g_M} (he : f7_init_47 F a1 mem = some q0) : n_Met l yX7_init cX7_init 2 1 5 111 D aC B yC0 48 53 (zN B) mem [.ref (B + 47), .ref (B + a1)] q0 := by
  refine n_ofW (by decide) rfl (by decide) (Nat.le_of_ble_eq_true rfl) ?_
  intro p e s m args below meth c ls E hml hret hlk hnm hsz hM hl
  have E : g_C p s m args c cX7_init RX7 D aC (zN B) := E
  have hx := E.1
  have hb := E.2.1
  have hown := E.2.2.1
  have hts := E.2.2.2.1
  have hl : lv_has ls 2 [(0, .ref (B + 47)), (1, .ref (B + a1))] := hl
  unfold f7_init_47 at he
  refine lv_aload_n hx hb dX7_init_0 rfl (lv_at hl 0 rfl) ?_
  refine W.objInit hx hb hown (hts _ oi_X7_3) (hts _ oi_inst) (hts _ oi_code) rfl (by rw [hml]; exact hl.1) rfl dX7_init_1 (Nat.le_of_ble_eq_true rfl) (Nat.le_of_ble_eq_true rfl) ?_
  refine W.eq (g2 := F0 m 4 ls []) rfl ?_
  refine lv_aload_n hx hb dX7_init_4 rfl (lv_at hl 0 rfl) ?_
  refine lv_iconst (v := (0 : Int32)) hx hb dX7_init_5 rfl ?_
  refine n_putI E hM (o := 47) (Nat.le_of_ble_eq_true rfl) rfl nfp_X7_9 dX7_init_6 (fun H locs hM => ?_)
  obtain ⟨m1, hm1, he⟩ := g_let_ex he
  rw [← hm1] at hM
  refine lv_aload_n hx hb dX7_init_9 rfl (lv_at hl 0 rfl) ?_
  refine lv_iconst (v := (0 : Int32)) hx hb dX7_init_10 rfl ?_
  refine n_putI E hM (o := 47) (Nat.le_of_ble_eq_true rfl) rfl nfp_X7_15 dX7_init_11 (fun H locs hM => ?_)
  obtain ⟨m2, hm2, he⟩ := g_let_ex he
  rw [← hm2] at hM
  refine lv_aload_n hx hb dX7_init_14 rfl (lv_at hl 0 rfl) ?_
  refine lv_iconst (v := (0 : Int32)) hx hb dX7_init_15 rfl ?_
  refine n_putI E hM (o := 47) (Nat.le_of_ble_eq_true rfl) rfl nfp_X7_18 dX7_init_16 (fun H locs hM => ?_)
  obtain ⟨m3, hm3, he⟩ := g_let_ex he
  rw [← hm3] at hM
  refine lv_aload_n hx hb dX7_init_19 rfl (lv_at hl 0 rfl) ?_
  refine lv_iconst (v := (5 : Int32)) hx hb dX7_init_20 rfl ?_
  refine n_newa (ty := .int) (atype := .int) (L := 5) E hM (by omega) rfl ka_int rfl (Or.inl ⟨rfl, rfl⟩) (by decide) (by decide) (by decide) (Nat.le_of_ble_eq_true rfl) (Nat.le_of_ble_eq_true rfl) dX7_init_21 (fun H hM => ?_)
  refine W.eq (g2 := F0 m 23 ls [.ref (B + 48), .ref (B + 47)]) rfl ?_
  refine n_putF E hM hnm (o := 47) (q := 48) (Nat.le_of_ble_eq_true rfl) rfl ff_X7_21 rfl dX7_init_23 (fun H locs hM => ?_)
  obtain ⟨m4, hm4, he⟩ := g_let_ex he
  rw [← hm4] at hM
  refine lv_aload_n hx hb dX7_init_26 rfl (lv_at hl 0 rfl) ?_
  refine lv_bipush (v := (25 : Int32)) hx hb dX7_init_27 rfl ?_
  refine n_newa (ty := .int) (atype := .int) (L := 25) E hM (by omega) rfl ka_int rfl (Or.inl ⟨rfl, rfl⟩) (by decide) (by decide) (by decide) (Nat.le_of_ble_eq_true rfl) (Nat.le_of_ble_eq_true rfl) dX7_init_29 (fun H hM => ?_)
  refine W.eq (g2 := F0 m 31 ls [.ref (B + 49), .ref (B + 47)]) rfl ?_
  refine n_putF E hM hnm (o := 47) (q := 49) (Nat.le_of_ble_eq_true rfl) rfl ff_X7_25 rfl dX7_init_31 (fun H locs hM => ?_)
  obtain ⟨m5, hm5, he⟩ := g_let_ex he
  rw [← hm5] at hM
  refine lv_aload_n hx hb dX7_init_34 rfl (lv_at hl 0 rfl) ?_
  refine lv_bipush (v := (25 : Int32)) hx hb dX7_init_35 rfl ?_
  refine n_newa (ty := .int) (atype := .int) (L := 25) E hM (by omega) rfl ka_int rfl (Or.inl ⟨rfl, rfl⟩) (by decide) (by decide) (by decide) (Nat.le_of_ble_eq_true rfl) (Nat.le_of_ble_eq_true rfl) dX7_init_37 (fun H hM => ?_)
  refine W.eq (g2 := F0 m 39 ls [.ref (B + 50), .ref (B + 47)]) rfl ?_
  refine n_putF E hM hnm (o := 47) (q := 50) (Nat.le_of_ble_eq_true rfl) rfl ff_X7_28 rfl dX7_init_39 (fun H locs hM => ?_)
  obtain ⟨m6, hm6, he⟩ := g_let_ex he
  rw [← hm6] at hM
  refine lv_aload_n hx hb dX7_init_42 rfl (lv_at hl 0 rfl) ?_
  refine lv_iconst (v := (0 : Int32)) hx hb dX7_init_43 rfl ?_
  refine n_putI E hM (o := 47) (Nat.le_of_ble_eq_true rfl) rfl nfp_X7_31 dX7_init_44 (fun H locs hM => ?_)
  obtain ⟨m7, hm7, he⟩ := g_let_ex he
  rw [← hm7] at hM
  refine lv_aload_n hx hb dX7_init_47 rfl (lv_at hl 0 rfl) ?_
  refine lv_bipush (v := (48 : Int32)) hx hb dX7_init_48 rfl ?_
  refine n_newa (ty := .int) (atype := .int) (L := 48) E hM (by omega) rfl ka_int rfl (Or.inl ⟨rfl, rfl⟩) (by decide) (by decide) (by decide) (Nat.le_of_ble_eq_true rfl) (Nat.le_of_ble_eq_true rfl) dX7_init_50 (fun H hM => ?_)
  refine W.eq (g2 := F0 m 52 ls [.ref (B + 51), .ref (B + 47)]) rfl ?_
  refine n_putF E hM hnm (o := 47) (q := 51) (Nat.le_of_ble_eq_true rfl) rfl ff_X7_34 rfl dX7_init_52 (fun H locs hM => ?_)
  obtain ⟨m8, hm8, he⟩ := g_let_ex he
  rw [← hm8] at hM
  refine lv_aload_n hx hb dX7_init_55 rfl (lv_at hl 0 rfl) ?_
  refine lv_bipush (v := (8 : Int32)) hx hb dX7_init_56 rfl ?_
  refine n_newa (ty := .int) (atype := .int) (L := 8) E hM (by omega) rfl ka_int rfl (Or.inl ⟨rfl, rfl⟩) (by decide) (by decide) (by decide) (Nat.le_of_ble_eq_true rfl) (Nat.le_of_ble_eq_true rfl) dX7_init_58 (fun H hM => ?_)
  refine W.eq (g2 := F0 m 60 ls [.ref (B + 52), .ref (B + 47)]) rfl ?_
  refine n_putF E hM hnm (o := 47) (q := 52) (Nat.le_of_ble_eq_true rfl) rfl ff_X7_37 rfl dX7_init_60 (fun H locs hM => ?_)
  obtain ⟨m9, hm9, he⟩ := g_let_ex he
  rw [← hm9] at hM
  refine lv_aload_n hx hb dX7_init_63 rfl (lv_at hl 0 rfl) ?_
  refine lv_aload_n hx hb dX7_init_64 rfl (lv_at hl 1 rfl) ?_
  refine n_putR E hM (o := 47) (q := a1) (Nat.le_of_ble_eq_true rfl) rfl nfp_X7_40 rfl dX7_init_65 (fun H locs hM => ?_)
  obtain ⟨m10, hm10, he⟩ := g_let_ex he
  rw [← hm10] at hM
  cases he
  exact n_vret E hM hret hlk dX7_init_68

set_option maxHeartbeats 4000000 in
set_option maxRecDepth 100000 in
theorem c0_init_53 (l : Launch) (D : va_G) (aC : Nat → ClassId) (B : Nat) {F : Nat} {a1 : Nat} (ha1 : a1 < 54) (hYa1 : yC0.1 a1 = (7, 0)) {mem : g_M} {q0 : g_M} (he : f0_init_53 F a1 mem = some q0) : n_Met l yX0_init cX0_init 2 1 2 32 D aC B yC0 54 56 (zN B) mem [.ref (B + 53), .ref (B + a1)] q0 := by
  refine n_ofW (by decide) rfl (by decide) (Nat.le_of_ble_eq_true rfl) ?_
  intro p e s m args below meth c ls E hml hret hlk hnm hsz hM hl
  have E : g_C p s m args c cX0_init RX0 D aC (zN B) := E
  have hx := E.1
  have hb := E.2.1
  have hown := E.2.2.1
  have hts := E.2.2.2.1
  have hl : lv_has ls 2 [(0, .ref (B + 53)), (1, .ref (B + a1))] := hl
  unfold f0_init_53 at he
  refine lv_aload_n hx hb dX0_init_0 rfl (lv_at hl 0 rfl) ?_
  refine W.objInit hx hb hown (hts _ oi_X0_3) (hts _ oi_inst) (hts _ oi_code) rfl (by rw [hml]; exact hl.1) rfl dX0_init_1 (Nat.le_of_ble_eq_true rfl) (Nat.le_of_ble_eq_true rfl) ?_
  refine W.eq (g2 := F0 m 4 ls []) rfl ?_
  refine lv_aload_n hx hb dX0_init_4 rfl (lv_at hl 0 rfl) ?_
  refine lv_iconst (v := (0 : Int32)) hx hb dX0_init_5 rfl ?_
  refine n_putI E hM (o := 53) (Nat.le_of_ble_eq_true rfl) rfl nfp_X0_9 dX0_init_6 (fun H locs hM => ?_)
  obtain ⟨m1, hm1, he⟩ := g_let_ex he
  rw [← hm1] at hM
  refine lv_aload_n hx hb dX0_init_9 rfl (lv_at hl 0 rfl) ?_
  refine lv_iconst (v := (0 : Int32)) hx hb dX0_init_10 rfl ?_
  refine n_putZ E hM (o := 53) (Nat.le_of_ble_eq_true rfl) rfl nfp_X0_15 (Or.inl rfl) dX0_init_11 (fun H locs hM => ?_)
  obtain ⟨m2, hm2, he⟩ := g_let_ex he
  rw [← hm2] at hM
  refine lv_aload_n hx hb dX0_init_14 rfl (lv_at hl 0 rfl) ?_
  refine lv_iconst (v := (-1 : Int32)) hx hb dX0_init_15 rfl ?_
  refine n_putI E hM (o := 53) (Nat.le_of_ble_eq_true rfl) rfl nfp_X0_19 dX0_init_16 (fun H locs hM => ?_)
  obtain ⟨m3, hm3, he⟩ := g_let_ex he
  rw [← hm3] at hM
  refine lv_aload_n hx hb dX0_init_19 rfl (lv_at hl 0 rfl) ?_
  refine lv_iconst (v := (1 : Int32)) hx hb dX0_init_20 rfl ?_
  refine n_putI E hM (o := 53) (Nat.le_of_ble_eq_true rfl) rfl nfp_X0_22 dX0_init_21 (fun H locs hM => ?_)
  obtain ⟨m4, hm4, he⟩ := g_let_ex he
  rw [← hm4] at hM
  refine lv_aload_n hx hb dX0_init_24 rfl (lv_at hl 0 rfl) ?_
  refine lv_bipush (v := (25 : Int32)) hx hb dX0_init_25 rfl ?_
  refine n_newa (ty := .boolean) (atype := .boolean) (L := 25) E hM (by omega) rfl ka_boolean rfl (Or.inr (Or.inr (Or.inl ⟨rfl, rfl⟩))) (by decide) (by decide) (by decide) (Nat.le_of_ble_eq_true rfl) (Nat.le_of_ble_eq_true rfl) dX0_init_27 (fun H hM => ?_)
  refine W.eq (g2 := F0 m 29 ls [.ref (B + 54), .ref (B + 53)]) rfl ?_
  refine n_putF E hM hnm (o := 53) (q := 54) (Nat.le_of_ble_eq_true rfl) rfl ff_X0_25 rfl dX0_init_29 (fun H locs hM => ?_)
  obtain ⟨m5, hm5, he⟩ := g_let_ex he
  rw [← hm5] at hM
  refine lv_aload_n hx hb dX0_init_32 rfl (lv_at hl 0 rfl) ?_
  refine lv_iconst (v := (0 : Int32)) hx hb dX0_init_33 rfl ?_
  refine n_putI E hM (o := 53) (Nat.le_of_ble_eq_true rfl) rfl nfp_X0_29 dX0_init_34 (fun H locs hM => ?_)
  obtain ⟨m6, hm6, he⟩ := g_let_ex he
  rw [← hm6] at hM
  refine lv_aload_n hx hb dX0_init_37 rfl (lv_at hl 0 rfl) ?_
  refine lv_bipush (v := (7 : Int32)) hx hb dX0_init_38 rfl ?_
  refine n_newa (ty := .long) (atype := .long) (L := 7) E hM (by omega) rfl ka_long rfl (Or.inr (Or.inl ⟨rfl, rfl⟩)) (by decide) (by decide) (by decide) (Nat.le_of_ble_eq_true rfl) (Nat.le_of_ble_eq_true rfl) dX0_init_40 (fun H hM => ?_)
  refine W.eq (g2 := F0 m 42 ls [.ref (B + 55), .ref (B + 53)]) rfl ?_
  refine n_putF E hM hnm (o := 53) (q := 55) (Nat.le_of_ble_eq_true rfl) rfl ff_X0_34 rfl dX0_init_42 (fun H locs hM => ?_)
  obtain ⟨m7, hm7, he⟩ := g_let_ex he
  rw [← hm7] at hM
  refine lv_aload_n hx hb dX0_init_45 rfl (lv_at hl 0 rfl) ?_
  refine lv_aload_n hx hb dX0_init_46 rfl (lv_at hl 1 rfl) ?_
  refine n_putR E hM (o := 53) (q := a1) (Nat.le_of_ble_eq_true rfl) rfl nfp_X0_38 rfl dX0_init_47 (fun H locs hM => ?_)
  obtain ⟨m8, hm8, he⟩ := g_let_ex he
  rw [← hm8] at hM
  refine lv_aload_n hx hb dX0_init_50 rfl (lv_at hl 0 rfl) ?_
  refine lv_aload_n hx hb dX0_init_51 rfl (lv_at hl 1 rfl) ?_
  obtain ⟨q9, hqq9, hq9, hYq9, he⟩ := g_dr_some he
  refine n_getD E hM (o := a1) (by omega) hYa1 nfl_X0_42 rfl hqq9 dX0_init_52 ?_
  refine n_putR E hM (o := 53) (q := q9) (Nat.le_of_ble_eq_true rfl) rfl nfp_X0_48 rfl dX0_init_55 (fun H locs hM => ?_)
  obtain ⟨m10, hm10, he⟩ := g_let_ex he
  rw [← hm10] at hM
  cases he
  exact n_vret E hM hret hlk dX0_init_58

set_option maxHeartbeats 4000000 in
set_option maxRecDepth 100000 in
theorem c4_init_57 (l : Launch) (D : va_G) (aC : Nat → ClassId) (B : Nat) {F : Nat} {mem : g_M} {q0 : g_M} (he : f4_init_57 F mem = some q0) : n_Met l yX4_init cX4_init 1 1 2 8 D aC B yC0 58 60 (zN B) mem [.ref (B + 57)] q0 := by
  refine n_ofW (by decide) rfl (by decide) (Nat.le_of_ble_eq_true rfl) ?_
  intro p e s m args below meth c ls E hml hret hlk hnm hsz hM hl
  have E : g_C p s m args c cX4_init RX4 D aC (zN B) := E
  have hx := E.1
  have hb := E.2.1
  have hown := E.2.2.1
  have hts := E.2.2.2.1
  have hl : lv_has ls 1 [(0, .ref (B + 57))] := hl
  unfold f4_init_57 at he
  refine lv_aload_n hx hb dX4_init_0 rfl (lv_at hl 0 rfl) ?_
  refine W.objInit hx hb hown (hts _ oi_X4_3) (hts _ oi_inst) (hts _ oi_code) rfl (by rw [hml]; exact hl.1) rfl dX4_init_1 (Nat.le_of_ble_eq_true rfl) (Nat.le_of_ble_eq_true rfl) ?_
  refine W.eq (g2 := F0 m 4 ls []) rfl ?_
  refine lv_aload_n hx hb dX4_init_4 rfl (lv_at hl 0 rfl) ?_
  refine lv_iconst (v := (0 : Int32)) hx hb dX4_init_5 rfl ?_
  refine n_putI E hM (o := 57) (Nat.le_of_ble_eq_true rfl) rfl nfp_X4_9 dX4_init_6 (fun H locs hM => ?_)
  obtain ⟨m1, hm1, he⟩ := g_let_ex he
  rw [← hm1] at hM
  refine lv_aload_n hx hb dX4_init_9 rfl (lv_at hl 0 rfl) ?_
  refine lv_iconst (v := (0 : Int32)) hx hb dX4_init_10 rfl ?_
  refine n_putI E hM (o := 57) (Nat.le_of_ble_eq_true rfl) rfl nfp_X4_15 dX4_init_11 (fun H locs hM => ?_)
  obtain ⟨m2, hm2, he⟩ := g_let_ex he
  rw [← hm2] at hM
  refine lv_aload_n hx hb dX4_init_14 rfl (lv_at hl 0 rfl) ?_
  refine lv_iconst (v := (4 : Int32)) hx hb dX4_init_15 rfl ?_
  refine n_newa (ty := .int) (atype := .int) (L := 4) E hM (by omega) rfl ka_int rfl (Or.inl ⟨rfl, rfl⟩) (by decide) (by decide) (by decide) (Nat.le_of_ble_eq_true rfl) (Nat.le_of_ble_eq_true rfl) dX4_init_16 (fun H hM => ?_)
  refine W.eq (g2 := F0 m 18 ls [.ref (B + 58), .ref (B + 57)]) rfl ?_
  refine n_putF E hM hnm (o := 57) (q := 58) (Nat.le_of_ble_eq_true rfl) rfl ff_X4_18 rfl dX4_init_18 (fun H locs hM => ?_)
  obtain ⟨m3, hm3, he⟩ := g_let_ex he
  rw [← hm3] at hM
  refine lv_aload_n hx hb dX4_init_21 rfl (lv_at hl 0 rfl) ?_
  refine lv_iconst (v := (0 : Int32)) hx hb dX4_init_22 rfl ?_
  refine n_putZ E hM (o := 57) (Nat.le_of_ble_eq_true rfl) rfl nfp_X4_22 (Or.inl rfl) dX4_init_23 (fun H locs hM => ?_)
  obtain ⟨m4, hm4, he⟩ := g_let_ex he
  rw [← hm4] at hM
  refine lv_aload_n hx hb dX4_init_26 rfl (lv_at hl 0 rfl) ?_
  refine lv_iconst (v := (4 : Int32)) hx hb dX4_init_27 rfl ?_
  refine n_newa (ty := .int) (atype := .int) (L := 4) E hM (by omega) rfl ka_int rfl (Or.inl ⟨rfl, rfl⟩) (by decide) (by decide) (by decide) (Nat.le_of_ble_eq_true rfl) (Nat.le_of_ble_eq_true rfl) dX4_init_28 (fun H hM => ?_)
  refine W.eq (g2 := F0 m 30 ls [.ref (B + 59), .ref (B + 57)]) rfl ?_
  refine n_putF E hM hnm (o := 57) (q := 59) (Nat.le_of_ble_eq_true rfl) rfl ff_X4_26 rfl dX4_init_30 (fun H locs hM => ?_)
  obtain ⟨m5, hm5, he⟩ := g_let_ex he
  rw [← hm5] at hM
  cases he
  exact n_vret E hM hret hlk dX4_init_33

set_option maxHeartbeats 4000000 in
set_option maxRecDepth 100000 in
theorem c6_init_60 (l : Launch) (D : va_G) (aC : Nat → ClassId) (B : Nat) {F : Nat} {mem : g_M} {q0 : g_M} (he : f6_init_60 F mem = some q0) : n_Met l yX6_init cX6_init 1 1 6 144 D aC B yC0 61 67 (zN B) mem [.ref (B + 60)] q0 := by
  refine n_ofW (by decide) rfl (by decide) (Nat.le_of_ble_eq_true rfl) ?_
  intro p e s m args below meth c ls E hml hret hlk hnm hsz hM hl
  have E : g_C p s m args c cX6_init RX6 D aC (zN B) := E
  have hx := E.1
  have hb := E.2.1
  have hown := E.2.2.1
  have hts := E.2.2.2.1
  have hl : lv_has ls 1 [(0, .ref (B + 60))] := hl
  unfold f6_init_60 at he
  refine lv_aload_n hx hb dX6_init_0 rfl (lv_at hl 0 rfl) ?_
  refine W.objInit hx hb hown (hts _ oi_X6_3) (hts _ oi_inst) (hts _ oi_code) rfl (by rw [hml]; exact hl.1) rfl dX6_init_1 (Nat.le_of_ble_eq_true rfl) (Nat.le_of_ble_eq_true rfl) ?_
  refine W.eq (g2 := F0 m 4 ls []) rfl ?_
  refine lv_aload_n hx hb dX6_init_4 rfl (lv_at hl 0 rfl) ?_
  refine lv_iconst (v := (0 : Int32)) hx hb dX6_init_5 rfl ?_
  refine n_putI E hM (o := 60) (Nat.le_of_ble_eq_true rfl) rfl nfp_X6_9 dX6_init_6 (fun H locs hM => ?_)
  obtain ⟨m1, hm1, he⟩ := g_let_ex he
  rw [← hm1] at hM
  refine lv_aload_n hx hb dX6_init_9 rfl (lv_at hl 0 rfl) ?_
  refine lv_iconst (v := (-1 : Int32)) hx hb dX6_init_10 rfl ?_
  refine n_putI E hM (o := 60) (Nat.le_of_ble_eq_true rfl) rfl nfp_X6_15 dX6_init_11 (fun H locs hM => ?_)
  obtain ⟨m2, hm2, he⟩ := g_let_ex he
  rw [← hm2] at hM
  refine lv_aload_n hx hb dX6_init_14 rfl (lv_at hl 0 rfl) ?_
  refine lv_bipush (v := (24 : Int32)) hx hb dX6_init_15 rfl ?_
  refine n_newa (ty := .int) (atype := .int) (L := 24) E hM (by omega) rfl ka_int rfl (Or.inl ⟨rfl, rfl⟩) (by decide) (by decide) (by decide) (Nat.le_of_ble_eq_true rfl) (Nat.le_of_ble_eq_true rfl) dX6_init_17 (fun H hM => ?_)
  refine W.eq (g2 := F0 m 19 ls [.ref (B + 61), .ref (B + 60)]) rfl ?_
  refine n_putF E hM hnm (o := 60) (q := 61) (Nat.le_of_ble_eq_true rfl) rfl ff_X6_18 rfl dX6_init_19 (fun H locs hM => ?_)
  obtain ⟨m3, hm3, he⟩ := g_let_ex he
  rw [← hm3] at hM
  refine lv_aload_n hx hb dX6_init_22 rfl (lv_at hl 0 rfl) ?_
  refine lv_bipush (v := (24 : Int32)) hx hb dX6_init_23 rfl ?_
  refine n_newa (ty := .int) (atype := .int) (L := 24) E hM (by omega) rfl ka_int rfl (Or.inl ⟨rfl, rfl⟩) (by decide) (by decide) (by decide) (Nat.le_of_ble_eq_true rfl) (Nat.le_of_ble_eq_true rfl) dX6_init_25 (fun H hM => ?_)
  refine W.eq (g2 := F0 m 27 ls [.ref (B + 62), .ref (B + 60)]) rfl ?_
  refine n_putF E hM hnm (o := 60) (q := 62) (Nat.le_of_ble_eq_true rfl) rfl ff_X6_22 rfl dX6_init_27 (fun H locs hM => ?_)
  obtain ⟨m4, hm4, he⟩ := g_let_ex he
  rw [← hm4] at hM
  refine lv_aload_n hx hb dX6_init_30 rfl (lv_at hl 0 rfl) ?_
  refine lv_bipush (v := (24 : Int32)) hx hb dX6_init_31 rfl ?_
  refine n_newa (ty := .int) (atype := .int) (L := 24) E hM (by omega) rfl ka_int rfl (Or.inl ⟨rfl, rfl⟩) (by decide) (by decide) (by decide) (Nat.le_of_ble_eq_true rfl) (Nat.le_of_ble_eq_true rfl) dX6_init_33 (fun H hM => ?_)
  refine W.eq (g2 := F0 m 35 ls [.ref (B + 63), .ref (B + 60)]) rfl ?_
  refine n_putF E hM hnm (o := 60) (q := 63) (Nat.le_of_ble_eq_true rfl) rfl ff_X6_25 rfl dX6_init_35 (fun H locs hM => ?_)
  obtain ⟨m5, hm5, he⟩ := g_let_ex he
  rw [← hm5] at hM
  refine lv_aload_n hx hb dX6_init_38 rfl (lv_at hl 0 rfl) ?_
  refine lv_bipush (v := (24 : Int32)) hx hb dX6_init_39 rfl ?_
  refine n_newa (ty := .boolean) (atype := .boolean) (L := 24) E hM (by omega) rfl ka_boolean rfl (Or.inr (Or.inr (Or.inl ⟨rfl, rfl⟩))) (by decide) (by decide) (by decide) (Nat.le_of_ble_eq_true rfl) (Nat.le_of_ble_eq_true rfl) dX6_init_41 (fun H hM => ?_)
  refine W.eq (g2 := F0 m 43 ls [.ref (B + 64), .ref (B + 60)]) rfl ?_
  refine n_putF E hM hnm (o := 60) (q := 64) (Nat.le_of_ble_eq_true rfl) rfl ff_X6_28 rfl dX6_init_43 (fun H locs hM => ?_)
  obtain ⟨m6, hm6, he⟩ := g_let_ex he
  rw [← hm6] at hM
  refine lv_aload_n hx hb dX6_init_46 rfl (lv_at hl 0 rfl) ?_
  refine lv_bipush (v := (24 : Int32)) hx hb dX6_init_47 rfl ?_
  refine n_newa (ty := .int) (atype := .int) (L := 24) E hM (by omega) rfl ka_int rfl (Or.inl ⟨rfl, rfl⟩) (by decide) (by decide) (by decide) (Nat.le_of_ble_eq_true rfl) (Nat.le_of_ble_eq_true rfl) dX6_init_49 (fun H hM => ?_)
  refine W.eq (g2 := F0 m 51 ls [.ref (B + 65), .ref (B + 60)]) rfl ?_
  refine n_putF E hM hnm (o := 60) (q := 65) (Nat.le_of_ble_eq_true rfl) rfl ff_X6_32 rfl dX6_init_51 (fun H locs hM => ?_)
  obtain ⟨m7, hm7, he⟩ := g_let_ex he
  rw [← hm7] at hM
  refine lv_aload_n hx hb dX6_init_54 rfl (lv_at hl 0 rfl) ?_
  refine lv_bipush (v := (24 : Int32)) hx hb dX6_init_55 rfl ?_
  refine n_newa (ty := .boolean) (atype := .boolean) (L := 24) E hM (by omega) rfl ka_boolean rfl (Or.inr (Or.inr (Or.inl ⟨rfl, rfl⟩))) (by decide) (by decide) (by decide) (Nat.le_of_ble_eq_true rfl) (Nat.le_of_ble_eq_true rfl) dX6_init_57 (fun H hM => ?_)
  refine W.eq (g2 := F0 m 59 ls [.ref (B + 66), .ref (B + 60)]) rfl ?_
  refine n_putF E hM hnm (o := 60) (q := 66) (Nat.le_of_ble_eq_true rfl) rfl ff_X6_35 rfl dX6_init_59 (fun H locs hM => ?_)
  obtain ⟨m8, hm8, he⟩ := g_let_ex he
  rw [← hm8] at hM
  cases he
  exact n_vret E hM hret hlk dX6_init_62

set_option maxHeartbeats 4000000 in
set_option maxRecDepth 100000 in
theorem c3_init_67 (l : Launch) (D : va_G) (aC : Nat → ClassId) (B : Nat) {F : Nat} {mem : g_M} {q0 : g_M} (he : f3_init_67 F mem = some q0) : n_Met l yX3_init cX3_init 1 1 1 80 D aC B yC0 68 69 (zN B) mem [.ref (B + 67)] q0 := by
  refine n_ofW (by decide) rfl (by decide) (Nat.le_of_ble_eq_true rfl) ?_
  intro p e s m args below meth c ls E hml hret hlk hnm hsz hM hl
  have E : g_C p s m args c cX3_init RX3 D aC (zN B) := E
  have hx := E.1
  have hb := E.2.1
  have hown := E.2.2.1
  have hts := E.2.2.2.1
  have hl : lv_has ls 1 [(0, .ref (B + 67))] := hl
  unfold f3_init_67 at he
  refine lv_aload_n hx hb dX3_init_0 rfl (lv_at hl 0 rfl) ?_
  refine W.objInit hx hb hown (hts _ oi_X3_3) (hts _ oi_inst) (hts _ oi_code) rfl (by rw [hml]; exact hl.1) rfl dX3_init_1 (Nat.le_of_ble_eq_true rfl) (Nat.le_of_ble_eq_true rfl) ?_
  refine W.eq (g2 := F0 m 4 ls []) rfl ?_
  refine lv_aload_n hx hb dX3_init_4 rfl (lv_at hl 0 rfl) ?_
  refine lv_iconst (v := (0 : Int32)) hx hb dX3_init_5 rfl ?_
  refine n_putI E hM (o := 67) (Nat.le_of_ble_eq_true rfl) rfl nfp_X3_9 dX3_init_6 (fun H locs hM => ?_)
  obtain ⟨m1, hm1, he⟩ := g_let_ex he
  rw [← hm1] at hM
  refine lv_aload_n hx hb dX3_init_9 rfl (lv_at hl 0 rfl) ?_
  refine lv_bipush (v := (80 : Int32)) hx hb dX3_init_10 rfl ?_
  refine n_newa (ty := .int) (atype := .int) (L := 80) E hM (by omega) rfl ka_int rfl (Or.inl ⟨rfl, rfl⟩) (by decide) (by decide) (by decide) (Nat.le_of_ble_eq_true rfl) (Nat.le_of_ble_eq_true rfl) dX3_init_12 (fun H hM => ?_)
  refine W.eq (g2 := F0 m 14 ls [.ref (B + 68), .ref (B + 67)]) rfl ?_
  refine n_putF E hM hnm (o := 67) (q := 68) (Nat.le_of_ble_eq_true rfl) rfl ff_X3_15 rfl dX3_init_14 (fun H locs hM => ?_)
  obtain ⟨m2, hm2, he⟩ := g_let_ex he
  rw [← hm2] at hM
  cases he
  exact n_vret E hM hret hlk dX3_init_17

set_option maxHeartbeats 4000000 in
set_option maxRecDepth 100000 in
theorem c10_init_0 (l : Launch) (D : va_G) (aC : Nat → ClassId) (B : Nat) {F : Nat} {mem : g_M} {q0 : g_M} (he : f10_init_0 F mem = some q0) : n_Met l yX10_init cX10_init 1 8 68 2057 D aC B yC0 1 69 (zN B) mem [.ref (B + 0)] q0 := by
  refine n_ofW (by decide) rfl (by decide) (Nat.le_of_ble_eq_true rfl) ?_
  intro p e s m args below meth c ls E hml hret hlk hnm hsz hM hl
  have E : g_C p s m args c cX10_init RX10 D aC (zN B) := E
  have hx := E.1
  have hb := E.2.1
  have hown := E.2.2.1
  have hts := E.2.2.2.1
  have hl : lv_has ls 1 [(0, .ref (B + 0))] := hl
  unfold f10_init_0 at he
  refine lv_aload_n hx hb dX10_init_0 rfl (lv_at hl 0 rfl) ?_
  refine W.objInit hx hb hown (hts _ oi_X10_1) (hts _ oi_inst) (hts _ oi_code) rfl (by rw [hml]; exact hl.1) rfl dX10_init_1 (Nat.le_of_ble_eq_true rfl) (Nat.le_of_ble_eq_true rfl) ?_
  refine W.eq (g2 := F0 m 4 ls []) rfl ?_
  refine lv_aload_n hx hb dX10_init_4 rfl (lv_at hl 0 rfl) ?_
  refine lv_sipush (v := (700 : Int32)) hx hb dX10_init_5 rfl ?_
  refine n_newa (ty := .byte) (atype := .byte) (L := 700) E hM (by omega) rfl ka_byte rfl (Or.inr (Or.inr (Or.inr ⟨rfl, rfl⟩))) (by decide) (by decide) (by decide) (Nat.le_of_ble_eq_true rfl) (Nat.le_of_ble_eq_true rfl) dX10_init_8 (fun H hM => ?_)
  refine W.eq (g2 := F0 m 10 ls [.ref (B + 1), .ref (B + 0)]) rfl ?_
  refine n_putF E hM hnm (o := 0) (q := 1) (Nat.le_of_ble_eq_true rfl) rfl ff_X10_9 rfl dX10_init_10 (fun H locs hM => ?_)
  obtain ⟨m1, hm1, he⟩ := g_let_ex he
  rw [← hm1] at hM
  refine lv_aload_n hx hb dX10_init_13 rfl (lv_at hl 0 rfl) ?_
  refine lv_iconst (v := (0 : Int32)) hx hb dX10_init_14 rfl ?_
  refine n_putI E hM (o := 0) (Nat.le_of_ble_eq_true rfl) rfl nfp_X10_13 dX10_init_15 (fun H locs hM => ?_)
  obtain ⟨m2, hm2, he⟩ := g_let_ex he
  rw [← hm2] at hM
  refine lv_aload_n hx hb dX10_init_18 rfl (lv_at hl 0 rfl) ?_
  refine n_new E hM (by omega) (ci := 9) rfl rfl kl_X10_17.1 kl_X10_17.2.1 kl_X10_17.2.2 (fun _ => rfl) (Nat.le_of_ble_eq_true rfl) (Nat.le_of_ble_eq_true rfl) dX10_init_19 (fun H hM => ?_)
  refine W.eq (g2 := F0 m 22 ls [.ref (B + 2), .ref (B + 0)]) rfl ?_
  refine lv_dup hx hb dX10_init_22 rfl ?_
  obtain ⟨r3, hcr3, he⟩ := g_bind he
  refine n_callIN [] (rest := [.ref (B + 2), .ref (B + 0)]) E hml hl.1 hM (by omega) E.2.2.2.2.2.2.1 cn_X9_init (c9_init_2 l D aC B hcr3) (by decide) (fun _ h => h.calling) (fun U hU hW => E.2.2.2.2.2.warm hW (fun q h1 h2 => by rw [hU]; exact hM.2.1.2.1 q h1 h2)) (by decide) (by decide) rfl rfl (Nat.le_of_ble_eq_true rfl) dX10_init_23 ⟨Nat.le_of_ble_eq_true rfl, Nat.le_of_ble_eq_true rfl⟩ (fun H locs hM => ?_)
  refine W.eq (g2 := F0 m 26 ls [.ref (B + 2), .ref (B + 0)]) rfl ?_
  refine n_putR E hM (o := 0) (q := 2) (Nat.le_of_ble_eq_true rfl) rfl nfp_X10_20 rfl dX10_init_26 (fun H locs hM => ?_)
  obtain ⟨m4, hm4, he⟩ := g_let_ex he
  rw [← hm4] at hM
  refine lv_aload_n hx hb dX10_init_29 rfl (lv_at hl 0 rfl) ?_
  refine n_new E hM (by omega) (ci := 9) rfl rfl kl_X10_17.1 kl_X10_17.2.1 kl_X10_17.2.2 (fun _ => rfl) (Nat.le_of_ble_eq_true rfl) (Nat.le_of_ble_eq_true rfl) dX10_init_30 (fun H hM => ?_)
  refine W.eq (g2 := F0 m 33 ls [.ref (B + 16), .ref (B + 0)]) rfl ?_
  refine lv_dup hx hb dX10_init_33 rfl ?_
  obtain ⟨r5, hcr5, he⟩ := g_bind he
  refine n_callIN [] (rest := [.ref (B + 16), .ref (B + 0)]) E hml hl.1 hM (by omega) E.2.2.2.2.2.2.1 cn_X9_init (c9_init_16 l D aC B hcr5) (by decide) (fun _ h => h.calling) (fun U hU hW => E.2.2.2.2.2.warm hW (fun q h1 h2 => by rw [hU]; exact hM.2.1.2.1 q h1 h2)) (by decide) (by decide) rfl rfl (Nat.le_of_ble_eq_true rfl) dX10_init_34 ⟨Nat.le_of_ble_eq_true rfl, Nat.le_of_ble_eq_true rfl⟩ (fun H locs hM => ?_)
  refine W.eq (g2 := F0 m 37 ls [.ref (B + 16), .ref (B + 0)]) rfl ?_
  refine n_putR E hM (o := 0) (q := 16) (Nat.le_of_ble_eq_true rfl) rfl nfp_X10_24 rfl dX10_init_37 (fun H locs hM => ?_)
  obtain ⟨m6, hm6, he⟩ := g_let_ex he
  rw [← hm6] at hM
  refine lv_aload_n hx hb dX10_init_40 rfl (lv_at hl 0 rfl) ?_
  refine n_new E hM (by omega) (ci := 5) rfl rfl kl_X10_27.1 kl_X10_27.2.1 kl_X10_27.2.2 (fun _ => rfl) (Nat.le_of_ble_eq_true rfl) (Nat.le_of_ble_eq_true rfl) dX10_init_41 (fun H hM => ?_)
  refine W.eq (g2 := F0 m 44 ls [.ref (B + 30), .ref (B + 0)]) rfl ?_
  refine lv_dup hx hb dX10_init_44 rfl ?_
  refine lv_aload_n hx hb dX10_init_45 rfl (lv_at hl 0 rfl) ?_
  obtain ⟨q7, hqq7, hq7, hYq7, he⟩ := g_dra_some he
  refine n_getD E hM (o := 0) (Nat.le_of_ble_eq_true rfl) rfl nfl_X10_9 rfl hqq7 dX10_init_46 ?_
  refine lv_aload_n hx hb dX10_init_49 rfl (lv_at hl 0 rfl) ?_
  obtain ⟨q8, hqq8, hq8, hYq8, he⟩ := g_dr_some he
  refine n_getD E hM (o := 0) (Nat.le_of_ble_eq_true rfl) rfl nfl_X10_24 rfl hqq8 dX10_init_50 ?_
  obtain ⟨r9, hcr9, he⟩ := g_bind he
  refine n_callI [.ref (B + q7), .ref (B + q8)] (rest := [.ref (B + 30), .ref (B + 0)]) E hml hl.1 hM (by omega) ci_X10_29 (c5_init_30 l D aC B (by omega) hYq7 (by omega) hYq8 hcr9) (by decide) (fun _ h => h.calling) (fun U hU hW => E.2.2.2.2.2.warm hW (fun q h1 h2 => by rw [hU]; exact hM.2.1.2.1 q h1 h2)) (by decide) (by decide) rfl rfl (Nat.le_of_ble_eq_true rfl) dX10_init_53 ⟨Nat.le_of_ble_eq_true rfl, Nat.le_of_ble_eq_true rfl⟩ (fun H locs hM => ?_)
  refine W.eq (g2 := F0 m 56 ls [.ref (B + 30), .ref (B + 0)]) rfl ?_
  refine n_putF E hM hnm (o := 0) (q := 30) (Nat.le_of_ble_eq_true rfl) rfl ff_X10_32 rfl dX10_init_56 (fun H locs hM => ?_)
  obtain ⟨m10, hm10, he⟩ := g_let_ex he
  rw [← hm10] at hM
  refine lv_aload_n hx hb dX10_init_59 rfl (lv_at hl 0 rfl) ?_
  refine lv_iconst (v := (0 : Int32)) hx hb dX10_init_60 rfl ?_
  refine n_putI E hM (o := 0) (Nat.le_of_ble_eq_true rfl) rfl nfp_X10_36 dX10_init_61 (fun H locs hM => ?_)
  obtain ⟨m11, hm11, he⟩ := g_let_ex he
  rw [← hm11] at hM
  refine lv_aload_n hx hb dX10_init_64 rfl (lv_at hl 0 rfl) ?_
  refine lv_iconst (v := (-1 : Int32)) hx hb dX10_init_65 rfl ?_
  refine n_putI E hM (o := 0) (Nat.le_of_ble_eq_true rfl) rfl nfp_X10_39 dX10_init_66 (fun H locs hM => ?_)
  obtain ⟨m12, hm12, he⟩ := g_let_ex he
  rw [← hm12] at hM
  refine lv_aload_n hx hb dX10_init_69 rfl (lv_at hl 0 rfl) ?_
  refine n_new E hM (by omega) (ci := 7) rfl rfl kl_X10_42.1 kl_X10_42.2.1 kl_X10_42.2.2 (fun _ => rfl) (Nat.le_of_ble_eq_true rfl) (Nat.le_of_ble_eq_true rfl) dX10_init_70 (fun H hM => ?_)
  refine W.eq (g2 := F0 m 73 ls [.ref (B + 35), .ref (B + 0)]) rfl ?_
  refine lv_dup hx hb dX10_init_73 rfl ?_
  refine lv_aload_n hx hb dX10_init_74 rfl (lv_at hl 0 rfl) ?_
  obtain ⟨q13, hqq13, hq13, hYq13, he⟩ := g_dr_some he
  refine n_getD E hM (o := 0) (Nat.le_of_ble_eq_true rfl) rfl nfl_X10_20 rfl hqq13 dX10_init_75 ?_
  obtain ⟨r14, hcr14, he⟩ := g_bind he
  refine n_callI [.ref (B + q13)] (rest := [.ref (B + 35), .ref (B + 0)]) E hml hl.1 hM (by omega) ci_X10_44 (c7_init_35 l D aC B (by omega) hYq13 hcr14) (by decide) (fun _ h => h.calling) (fun U hU hW => E.2.2.2.2.2.warm hW (fun q h1 h2 => by rw [hU]; exact hM.2.1.2.1 q h1 h2)) (by decide) (by decide) rfl rfl (Nat.le_of_ble_eq_true rfl) dX10_init_78 ⟨Nat.le_of_ble_eq_true rfl, Nat.le_of_ble_eq_true rfl⟩ (fun H locs hM => ?_)
  refine W.eq (g2 := F0 m 81 ls [.ref (B + 35), .ref (B + 0)]) rfl ?_
  refine n_putF E hM hnm (o := 0) (q := 35) (Nat.le_of_ble_eq_true rfl) rfl ff_X10_47 rfl dX10_init_81 (fun H locs hM => ?_)
  obtain ⟨m15, hm15, he⟩ := g_let_ex he
  rw [← hm15] at hM
  refine lv_aload_n hx hb dX10_init_84 rfl (lv_at hl 0 rfl) ?_
  refine n_new E hM (by omega) (ci := 7) rfl rfl kl_X10_42.1 kl_X10_42.2.1 kl_X10_42.2.2 (fun _ => rfl) (Nat.le_of_ble_eq_true rfl) (Nat.le_of_ble_eq_true rfl) dX10_init_85 (fun H hM => ?_)
  refine W.eq (g2 := F0 m 88 ls [.ref (B + 41), .ref (B + 0)]) rfl ?_
  refine lv_dup hx hb dX10_init_88 rfl ?_
  refine lv_aload_n hx hb dX10_init_89 rfl (lv_at hl 0 rfl) ?_
  obtain ⟨q16, hqq16, hq16, hYq16, he⟩ := g_dr_some he
  refine n_getD E hM (o := 0) (Nat.le_of_ble_eq_true rfl) rfl nfl_X10_20 rfl hqq16 dX10_init_90 ?_
  obtain ⟨r17, hcr17, he⟩ := g_bind he
  refine n_callI [.ref (B + q16)] (rest := [.ref (B + 41), .ref (B + 0)]) E hml hl.1 hM (by omega) ci_X10_44 (c7_init_41 l D aC B (by omega) hYq16 hcr17) (by decide) (fun _ h => h.calling) (fun U hU hW => E.2.2.2.2.2.warm hW (fun q h1 h2 => by rw [hU]; exact hM.2.1.2.1 q h1 h2)) (by decide) (by decide) rfl rfl (Nat.le_of_ble_eq_true rfl) dX10_init_93 ⟨Nat.le_of_ble_eq_true rfl, Nat.le_of_ble_eq_true rfl⟩ (fun H locs hM => ?_)
  refine W.eq (g2 := F0 m 96 ls [.ref (B + 41), .ref (B + 0)]) rfl ?_
  refine n_putF E hM hnm (o := 0) (q := 41) (Nat.le_of_ble_eq_true rfl) rfl ff_X10_51 rfl dX10_init_96 (fun H locs hM => ?_)
  obtain ⟨m18, hm18, he⟩ := g_let_ex he
  rw [← hm18] at hM
  refine lv_aload_n hx hb dX10_init_99 rfl (lv_at hl 0 rfl) ?_
  refine lv_iconst (v := (0 : Int32)) hx hb dX10_init_100 rfl ?_
  refine n_putZ E hM (o := 0) (Nat.le_of_ble_eq_true rfl) rfl nfp_X10_54 (Or.inl rfl) dX10_init_101 (fun H locs hM => ?_)
  obtain ⟨m19, hm19, he⟩ := g_let_ex he
  rw [← hm19] at hM
  refine lv_aload_n hx hb dX10_init_104 rfl (lv_at hl 0 rfl) ?_
  refine n_new E hM (by omega) (ci := 7) rfl rfl kl_X10_42.1 kl_X10_42.2.1 kl_X10_42.2.2 (fun _ => rfl) (Nat.le_of_ble_eq_true rfl) (Nat.le_of_ble_eq_true rfl) dX10_init_105 (fun H hM => ?_)
  refine W.eq (g2 := F0 m 108 ls [.ref (B + 47), .ref (B + 0)]) rfl ?_
  refine lv_dup hx hb dX10_init_108 rfl ?_
  refine lv_aload_n hx hb dX10_init_109 rfl (lv_at hl 0 rfl) ?_
  obtain ⟨q20, hqq20, hq20, hYq20, he⟩ := g_dr_some he
  refine n_getD E hM (o := 0) (Nat.le_of_ble_eq_true rfl) rfl nfl_X10_20 rfl hqq20 dX10_init_110 ?_
  obtain ⟨r21, hcr21, he⟩ := g_bind he
  refine n_callI [.ref (B + q20)] (rest := [.ref (B + 47), .ref (B + 0)]) E hml hl.1 hM (by omega) ci_X10_44 (c7_init_47 l D aC B (by omega) hYq20 hcr21) (by decide) (fun _ h => h.calling) (fun U hU hW => E.2.2.2.2.2.warm hW (fun q h1 h2 => by rw [hU]; exact hM.2.1.2.1 q h1 h2)) (by decide) (by decide) rfl rfl (Nat.le_of_ble_eq_true rfl) dX10_init_113 ⟨Nat.le_of_ble_eq_true rfl, Nat.le_of_ble_eq_true rfl⟩ (fun H locs hM => ?_)
  refine W.eq (g2 := F0 m 116 ls [.ref (B + 47), .ref (B + 0)]) rfl ?_
  refine n_putF E hM hnm (o := 0) (q := 47) (Nat.le_of_ble_eq_true rfl) rfl ff_X10_58 rfl dX10_init_116 (fun H locs hM => ?_)
  obtain ⟨m22, hm22, he⟩ := g_let_ex he
  rw [← hm22] at hM
  refine lv_aload_n hx hb dX10_init_119 rfl (lv_at hl 0 rfl) ?_
  refine n_new E hM (by omega) (ci := 0) rfl rfl kl_X10_61.1 kl_X10_61.2.1 kl_X10_61.2.2 (fun _ => rfl) (Nat.le_of_ble_eq_true rfl) (Nat.le_of_ble_eq_true rfl) dX10_init_120 (fun H hM => ?_)
  refine W.eq (g2 := F0 m 123 ls [.ref (B + 53), .ref (B + 0)]) rfl ?_
  refine lv_dup hx hb dX10_init_123 rfl ?_
  refine lv_aload_n hx hb dX10_init_124 rfl (lv_at hl 0 rfl) ?_
  obtain ⟨q23, hqq23, hq23, hYq23, he⟩ := g_dr_some he
  refine n_getD E hM (o := 0) (Nat.le_of_ble_eq_true rfl) rfl nfl_X10_47 rfl hqq23 dX10_init_125 ?_
  obtain ⟨r24, hcr24, he⟩ := g_bind he
  refine n_callI [.ref (B + q23)] (rest := [.ref (B + 53), .ref (B + 0)]) E hml hl.1 hM (by omega) ci_X10_63 (c0_init_53 l D aC B (by omega) hYq23 hcr24) (by decide) (fun _ h => h.calling) (fun U hU hW => E.2.2.2.2.2.warm hW (fun q h1 h2 => by rw [hU]; exact hM.2.1.2.1 q h1 h2)) (by decide) (by decide) rfl rfl (Nat.le_of_ble_eq_true rfl) dX10_init_128 ⟨Nat.le_of_ble_eq_true rfl, Nat.le_of_ble_eq_true rfl⟩ (fun H locs hM => ?_)
  refine W.eq (g2 := F0 m 131 ls [.ref (B + 53), .ref (B + 0)]) rfl ?_
  refine n_putF E hM hnm (o := 0) (q := 53) (Nat.le_of_ble_eq_true rfl) rfl ff_X10_66 rfl dX10_init_131 (fun H locs hM => ?_)
  obtain ⟨m25, hm25, he⟩ := g_let_ex he
  rw [← hm25] at hM
  refine lv_aload_n hx hb dX10_init_134 rfl (lv_at hl 0 rfl) ?_
  refine lv_bipush (v := (31 : Int32)) hx hb dX10_init_135 rfl ?_
  refine n_newa (ty := .int) (atype := .int) (L := 31) E hM (by omega) rfl ka_int rfl (Or.inl ⟨rfl, rfl⟩) (by decide) (by decide) (by decide) (Nat.le_of_ble_eq_true rfl) (Nat.le_of_ble_eq_true rfl) dX10_init_137 (fun H hM => ?_)
  refine W.eq (g2 := F0 m 139 ls [.ref (B + 56), .ref (B + 0)]) rfl ?_
  refine n_putF E hM hnm (o := 0) (q := 56) (Nat.le_of_ble_eq_true rfl) rfl ff_X10_70 rfl dX10_init_139 (fun H locs hM => ?_)
  obtain ⟨m26, hm26, he⟩ := g_let_ex he
  rw [← hm26] at hM
  refine lv_aload_n hx hb dX10_init_142 rfl (lv_at hl 0 rfl) ?_
  refine n_new E hM (by omega) (ci := 4) rfl rfl kl_X10_74.1 kl_X10_74.2.1 kl_X10_74.2.2 (fun _ => rfl) (Nat.le_of_ble_eq_true rfl) (Nat.le_of_ble_eq_true rfl) dX10_init_143 (fun H hM => ?_)
  refine W.eq (g2 := F0 m 146 ls [.ref (B + 57), .ref (B + 0)]) rfl ?_
  refine lv_dup hx hb dX10_init_146 rfl ?_
  obtain ⟨r27, hcr27, he⟩ := g_bind he
  refine n_callIN [] (rest := [.ref (B + 57), .ref (B + 0)]) E hml hl.1 hM (by omega) E.2.2.2.2.2.2.2.2.1 cn_X4_init (c4_init_57 l D aC B hcr27) (by decide) (fun _ h => h.calling) (fun U hU hW => E.2.2.2.2.2.warm hW (fun q h1 h2 => by rw [hU]; exact hM.2.1.2.1 q h1 h2)) (by decide) (by decide) rfl rfl (Nat.le_of_ble_eq_true rfl) dX10_init_147 ⟨Nat.le_of_ble_eq_true rfl, Nat.le_of_ble_eq_true rfl⟩ (fun H locs hM => ?_)
  refine W.eq (g2 := F0 m 150 ls [.ref (B + 57), .ref (B + 0)]) rfl ?_
  refine n_putF E hM hnm (o := 0) (q := 57) (Nat.le_of_ble_eq_true rfl) rfl ff_X10_77 rfl dX10_init_150 (fun H locs hM => ?_)
  obtain ⟨m28, hm28, he⟩ := g_let_ex he
  rw [← hm28] at hM
  refine lv_aload_n hx hb dX10_init_153 rfl (lv_at hl 0 rfl) ?_
  refine n_new E hM (by omega) (ci := 6) rfl rfl kl_X10_81.1 kl_X10_81.2.1 kl_X10_81.2.2 (fun _ => rfl) (Nat.le_of_ble_eq_true rfl) (Nat.le_of_ble_eq_true rfl) dX10_init_154 (fun H hM => ?_)
  refine W.eq (g2 := F0 m 157 ls [.ref (B + 60), .ref (B + 0)]) rfl ?_
  refine lv_dup hx hb dX10_init_157 rfl ?_
  obtain ⟨r29, hcr29, he⟩ := g_bind he
  refine n_callIN [] (rest := [.ref (B + 60), .ref (B + 0)]) E hml hl.1 hM (by omega) E.2.2.2.2.2.2.2.2.2.1 cn_X6_init (c6_init_60 l D aC B hcr29) (by decide) (fun _ h => h.calling) (fun U hU hW => E.2.2.2.2.2.warm hW (fun q h1 h2 => by rw [hU]; exact hM.2.1.2.1 q h1 h2)) (by decide) (by decide) rfl rfl (Nat.le_of_ble_eq_true rfl) dX10_init_158 ⟨Nat.le_of_ble_eq_true rfl, Nat.le_of_ble_eq_true rfl⟩ (fun H locs hM => ?_)
  refine W.eq (g2 := F0 m 161 ls [.ref (B + 60), .ref (B + 0)]) rfl ?_
  refine n_putF E hM hnm (o := 0) (q := 60) (Nat.le_of_ble_eq_true rfl) rfl ff_X10_84 rfl dX10_init_161 (fun H locs hM => ?_)
  obtain ⟨m30, hm30, he⟩ := g_let_ex he
  rw [← hm30] at hM
  refine lv_aload_n hx hb dX10_init_164 rfl (lv_at hl 0 rfl) ?_
  refine n_new E hM (by omega) (ci := 3) rfl rfl kl_X10_88.1 kl_X10_88.2.1 kl_X10_88.2.2 (fun _ => rfl) (Nat.le_of_ble_eq_true rfl) (Nat.le_of_ble_eq_true rfl) dX10_init_165 (fun H hM => ?_)
  refine W.eq (g2 := F0 m 168 ls [.ref (B + 67), .ref (B + 0)]) rfl ?_
  refine lv_dup hx hb dX10_init_168 rfl ?_
  obtain ⟨r31, hcr31, he⟩ := g_bind he
  refine n_callIN [] (rest := [.ref (B + 67), .ref (B + 0)]) E hml hl.1 hM (by omega) E.2.2.2.2.2.2.2.2.2.2 cn_X3_init (c3_init_67 l D aC B hcr31) (by decide) (fun _ h => h.calling) (fun U hU hW => E.2.2.2.2.2.warm hW (fun q h1 h2 => by rw [hU]; exact hM.2.1.2.1 q h1 h2)) (by decide) (by decide) rfl rfl (Nat.le_of_ble_eq_true rfl) dX10_init_169 ⟨Nat.le_of_ble_eq_true rfl, Nat.le_of_ble_eq_true rfl⟩ (fun H locs hM => ?_)
  refine W.eq (g2 := F0 m 172 ls [.ref (B + 67), .ref (B + 0)]) rfl ?_
  refine n_putF E hM hnm (o := 0) (q := 67) (Nat.le_of_ble_eq_true rfl) rfl ff_X10_91 rfl dX10_init_172 (fun H locs hM => ?_)
  obtain ⟨m32, hm32, he⟩ := g_let_ex he
  rw [← hm32] at hM
  cases he
  exact n_vret E hM hret hlk dX10_init_175
end
