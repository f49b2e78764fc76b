def lC : List (Nat × Nat) := [(10, 0), (53, 700), (9, 0), (50, 3), (50, 15), (50, 5), (50, 5), (50, 5), (50, 5), (50, 48), (50, 40), (2, 0), (50, 64), (50, 3), (50, 3), (51, 64), (9, 0), (50, 3), (50, 15), (50, 5), (50, 5), (50, 5), (50, 5), (50, 48), (50, 40), (2, 0), (50, 64), (50, 3), (50, 3), (51, 64), (5, 0), (8, 0), (50, 22), (1, 0), (50, 72), (7, 0), (50, 5), (50, 25), (50, 25), (50, 48), (50, 8), (7, 0), (50, 5), (50, 25), (50, 25), (50, 48), (50, 8), (7, 0), (50, 5), (50, 25), (50, 25), (50, 48), (50, 8), (0, 0), (52, 25), (51, 7), (50, 31), (4, 0), (50, 4), (50, 4), (6, 0), (50, 24), (50, 24), (50, 24), (52, 24), (50, 24), (52, 24), (3, 0), (50, 80)]
def qC : List (List (Option Nat)) := [[some 1, none, none, none, some 30, none, none, some 35, some 41, none, some 47, some 53, some 56, some 57, some 60, some 67],
  [],
  [some 3, some 4, some 5, some 6, some 7, some 8, none, some 9, none, some 10, none, none, none, some 11],
  [],
  [],
  [],
  [],
  [],
  [],
  [],
  [],
  [some 12, some 13, some 14, none, some 15],
  [],
  [],
  [],
  [],
  [some 17, some 18, some 19, some 20, some 21, some 22, none, some 23, none, some 24, none, none, none, some 25],
  [],
  [],
  [],
  [],
  [],
  [],
  [],
  [],
  [some 26, some 27, some 28, none, some 29],
  [],
  [],
  [],
  [],
  [none, none, none, some 31, some 33, none, none, none, none],
  [none, none, none, some 1, none, none, some 32],
  [],
  [some 34, none, none, none, none, some 31, none],
  [],
  [none, none, none, none, some 36, some 37, some 38, none, some 39, some 40],
  [],
  [],
  [],
  [],
  [],
  [none, none, none, none, some 42, some 43, some 44, none, some 45, some 46],
  [],
  [],
  [],
  [],
  [],
  [none, none, none, none, some 48, some 49, some 50, none, some 51, some 52],
  [],
  [],
  [],
  [],
  [],
  [none, none, none, none, none, none, some 54, none, some 55],
  [],
  [],
  [],
  [none, none, some 58, none, some 59],
  [],
  [],
  [none, none, some 61, some 62, some 63, some 64, some 65, some 66],
  [],
  [],
  [],
  [],
  [],
  [],
  [none, some 68],
  []]
def yC : g_Y := (fun o => lC.getD o (99, 0), fun o k => (qC.getD o []).getD k none)
def lM : List (Nat × Nat) := [(11, 0), (50, 700), (50, 18), (50, 10), (50, 10), (50, 10), (50, 10), (50, 10), (50, 10), (50, 10), (50, 24), (50, 24), (50, 24), (50, 16), (50, 16), (50, 16), (50, 16), (50, 16), (50, 6), (50, 6), (50, 128), (50, 128), (51, 7), (51, 64), (50, 23), (50, 23), (50, 23), (50, 23), (50, 115), (50, 575), (50, 575), (50, 184), (50, 276), (50, 276), (50, 276), (50, 276), (50, 4), (50, 4), (50, 4), (50, 24), (50, 24), (52, 24), (50, 24), (52, 24)]
def qM : List (List (Option Nat)) := [[none, some 1, none, some 2, some 3, some 4, some 5, some 6, some 7, some 8, some 9, some 10, some 11, some 12, some 13, some 14, some 15, some 16, some 17, some 18, some 19, some 20, some 21, none, none, none, none, none, none, none, none, none, none, none, none, none, some 22, some 23, none, some 24, some 25, some 26, some 27, some 28, some 29, some 30, some 31, some 32, some 33, some 34, some 35, none, none, none, none, none, none, none, none, some 36, some 37, some 38, none, none, none, none, none, some 39, some 40, some 41, some 42, some 43],
  [],
  [],
  [],
  [],
  [],
  [],
  [],
  [],
  [],
  [],
  [],
  [],
  [],
  [],
  [],
  [],
  [],
  [],
  [],
  [],
  [],
  [],
  [],
  [],
  [],
  [],
  [],
  [],
  [],
  [],
  [],
  [],
  [],
  [],
  [],
  [],
  [],
  [],
  [],
  [],
  [],
  [],
  []]
def yM : g_Y := (fun o => lM.getD o (99, 0), fun o k => (qM.getD o []).getD k none)
theorem pn_7_0 : ∀ t, t < 69 → yC.1 t = (7, 0) → yC.2 t 0 = none := by decide +kernel
theorem pt_2_0 : ∀ t, t < 69 → yC.1 t = (2, 0) → yC.2 t 0 = some (t + 1) ∧ t + 1 < 69 ∧ yC.1 (t + 1) = (50, 64) := by decide +kernel
theorem pt_2_1 : ∀ t, t < 69 → yC.1 t = (2, 0) → yC.2 t 1 = some (t + 2) ∧ t + 2 < 69 ∧ yC.1 (t + 2) = (50, 3) := by decide +kernel
theorem pt_2_2 : ∀ t, t < 69 → yC.1 t = (2, 0) → yC.2 t 2 = some (t + 3) ∧ t + 3 < 69 ∧ yC.1 (t + 3) = (50, 3) := by decide +kernel
theorem pt_2_4 : ∀ t, t < 69 → yC.1 t = (2, 0) → yC.2 t 4 = some (t + 4) ∧ t + 4 < 69 ∧ yC.1 (t + 4) = (51, 64) := by decide +kernel
theorem pt_7_4 : ∀ t, t < 69 → yC.1 t = (7, 0) → yC.2 t 4 = some (t + 1) ∧ t + 1 < 69 ∧ yC.1 (t + 1) = (50, 5) := by decide +kernel
theorem pt_7_5 : ∀ t, t < 69 → yC.1 t = (7, 0) → yC.2 t 5 = some (t + 2) ∧ t + 2 < 69 ∧ yC.1 (t + 2) = (50, 25) := by decide +kernel
theorem pt_7_6 : ∀ t, t < 69 → yC.1 t = (7, 0) → yC.2 t 6 = some (t + 3) ∧ t + 3 < 69 ∧ yC.1 (t + 3) = (50, 25) := by decide +kernel
theorem pt_7_8 : ∀ t, t < 69 → yC.1 t = (7, 0) → yC.2 t 8 = some (t + 4) ∧ t + 4 < 69 ∧ yC.1 (t + 4) = (50, 48) := by decide +kernel
theorem pt_7_9 : ∀ t, t < 69 → yC.1 t = (7, 0) → yC.2 t 9 = some (t + 5) ∧ t + 5 < 69 ∧ yC.1 (t + 5) = (50, 8) := by decide +kernel
theorem pt_9_0 : ∀ t, t < 69 → yC.1 t = (9, 0) → yC.2 t 0 = some (t + 1) ∧ t + 1 < 69 ∧ yC.1 (t + 1) = (50, 3) := by decide +kernel
theorem pt_9_1 : ∀ t, t < 69 → yC.1 t = (9, 0) → yC.2 t 1 = some (t + 2) ∧ t + 2 < 69 ∧ yC.1 (t + 2) = (50, 15) := by decide +kernel
theorem pt_9_13 : ∀ t, t < 69 → yC.1 t = (9, 0) → yC.2 t 13 = some (t + 9) ∧ t + 9 < 69 ∧ yC.1 (t + 9) = (2, 0) := by decide +kernel
theorem pt_9_2 : ∀ t, t < 69 → yC.1 t = (9, 0) → yC.2 t 2 = some (t + 3) ∧ t + 3 < 69 ∧ yC.1 (t + 3) = (50, 5) := by decide +kernel
theorem pt_9_3 : ∀ t, t < 69 → yC.1 t = (9, 0) → yC.2 t 3 = some (t + 4) ∧ t + 4 < 69 ∧ yC.1 (t + 4) = (50, 5) := by decide +kernel
theorem pt_9_4 : ∀ t, t < 69 → yC.1 t = (9, 0) → yC.2 t 4 = some (t + 5) ∧ t + 5 < 69 ∧ yC.1 (t + 5) = (50, 5) := by decide +kernel
theorem pt_9_5 : ∀ t, t < 69 → yC.1 t = (9, 0) → yC.2 t 5 = some (t + 6) ∧ t + 6 < 69 ∧ yC.1 (t + 6) = (50, 5) := by decide +kernel
theorem pt_9_7 : ∀ t, t < 69 → yC.1 t = (9, 0) → yC.2 t 7 = some (t + 7) ∧ t + 7 < 69 ∧ yC.1 (t + 7) = (50, 48) := by decide +kernel
theorem pt_9_9 : ∀ t, t < 69 → yC.1 t = (9, 0) → yC.2 t 9 = some (t + 8) ∧ t + 8 < 69 ∧ yC.1 (t + 8) = (50, 40) := by decide +kernel
theorem fl_X0_100 : g_FL RX0 100 7 4 true := ⟨_, rfl, by decide, rfl, g_mem 314 (by decide +kernel) (by decide +kernel)⟩
theorem fl_X0_109 : g_FL RX0 109 7 7 false := ⟨_, rfl, by decide, rfl, g_mem 324 (by decide +kernel) (by decide +kernel)⟩
theorem fl_X0_119 : g_FL RX0 119 9 3 true := ⟨_, rfl, by decide, rfl, g_mem 80 (by decide +kernel) (by decide +kernel)⟩
theorem fl_X0_130 : g_FL RX0 130 7 6 true := ⟨_, rfl, by decide, rfl, g_mem 319 (by decide +kernel) (by decide +kernel)⟩
theorem fl_X0_136 : g_FL RX0 136 9 4 true := ⟨_, rfl, by decide, rfl, g_mem 84 (by decide +kernel) (by decide +kernel)⟩
theorem fl_X0_139 : g_FL RX0 139 9 11 false := ⟨_, rfl, by decide, rfl, g_mem 109 (by decide +kernel) (by decide +kernel)⟩
theorem fl_X0_146 : g_FL RX0 146 7 2 false := ⟨_, rfl, by decide, rfl, g_mem 308 (by decide +kernel) (by decide +kernel)⟩
theorem fl_X0_15 : g_FL RX0 15 0 1 false := ⟨_, rfl, by decide, rfl, g_mem 359 (by decide +kernel) (by decide +kernel)⟩
theorem fl_X0_156 : g_FL RX0 156 9 0 true := ⟨_, rfl, by decide, rfl, g_mem 70 (by decide +kernel) (by decide +kernel)⟩
theorem fl_X0_169 : g_FL RX0 169 9 13 true := ⟨_, rfl, by decide, rfl, g_mem 117 (by decide +kernel) (by decide +kernel)⟩
theorem fl_X0_19 : g_FL RX0 19 0 2 false := ⟨_, rfl, by decide, rfl, g_mem 361 (by decide +kernel) (by decide +kernel)⟩
theorem fl_X0_22 : g_FL RX0 22 0 5 false := ⟨_, rfl, by decide, rfl, g_mem 365 (by decide +kernel) (by decide +kernel)⟩
theorem fl_X0_25 : g_FL RX0 25 0 6 true := ⟨_, rfl, by decide, rfl, g_mem 366 (by decide +kernel) (by decide +kernel)⟩
theorem fl_X0_29 : g_FL RX0 29 0 7 false := ⟨_, rfl, by decide, rfl, g_mem 367 (by decide +kernel) (by decide +kernel)⟩
theorem fl_X0_34 : g_FL RX0 34 0 8 true := ⟨_, rfl, by decide, rfl, g_mem 368 (by decide +kernel) (by decide +kernel)⟩
theorem fl_X0_38 : g_FL RX0 38 0 3 true := ⟨_, rfl, by decide, rfl, g_mem 363 (by decide +kernel) (by decide +kernel)⟩
theorem fl_X0_42 : g_FL RX0 42 7 0 true := ⟨_, rfl, by decide, rfl, g_mem 301 (by decide +kernel) (by decide +kernel)⟩
theorem fl_X0_48 : g_FL RX0 48 0 4 true := ⟨_, rfl, by decide, rfl, g_mem 364 (by decide +kernel) (by decide +kernel)⟩
theorem fl_X0_49 : g_FL RX0 49 9 10 false := ⟨_, rfl, by decide, rfl, g_mem 105 (by decide +kernel) (by decide +kernel)⟩
theorem fl_X0_62 : g_FL RX0 62 7 3 false := ⟨_, rfl, by decide, rfl, g_mem 311 (by decide +kernel) (by decide +kernel)⟩
theorem fl_X0_70 : g_FL RX0 70 7 1 false := ⟨_, rfl, by decide, rfl, g_mem 304 (by decide +kernel) (by decide +kernel)⟩
theorem fl_X0_73 : g_FL RX0 73 9 8 false := ⟨_, rfl, by decide, rfl, g_mem 98 (by decide +kernel) (by decide +kernel)⟩
theorem fl_X0_88 : g_FL RX0 88 7 9 true := ⟨_, rfl, by decide, rfl, g_mem 328 (by decide +kernel) (by decide +kernel)⟩
theorem fl_X0_9 : g_FL RX0 9 0 0 false := ⟨_, rfl, by decide, rfl, g_mem 357 (by decide +kernel) (by decide +kernel)⟩
theorem fl_X10_103 : g_FL RX10 103 5 0 false := ⟨_, rfl, by decide, rfl, g_mem 265 (by decide +kernel) (by decide +kernel)⟩
theorem fl_X10_104 : g_FL RX10 104 5 1 false := ⟨_, rfl, by decide, rfl, g_mem 267 (by decide +kernel) (by decide +kernel)⟩
theorem fl_X10_112 : g_FL RX10 112 5 2 false := ⟨_, rfl, by decide, rfl, g_mem 269 (by decide +kernel) (by decide +kernel)⟩
theorem fl_X10_13 : g_FL RX10 13 10 1 false := ⟨_, rfl, by decide, rfl, g_mem 462 (by decide +kernel) (by decide +kernel)⟩
theorem fl_X10_130 : g_FL RX10 130 7 4 true := ⟨_, rfl, by decide, rfl, g_mem 315 (by decide +kernel) (by decide +kernel)⟩
theorem fl_X10_151 : g_FL RX10 151 9 3 true := ⟨_, rfl, by decide, rfl, g_mem 81 (by decide +kernel) (by decide +kernel)⟩
theorem fl_X10_154 : g_FL RX10 154 9 4 true := ⟨_, rfl, by decide, rfl, g_mem 85 (by decide +kernel) (by decide +kernel)⟩
theorem fl_X10_160 : g_FL RX10 160 9 5 true := ⟨_, rfl, by decide, rfl, g_mem 88 (by decide +kernel) (by decide +kernel)⟩
theorem fl_X10_172 : g_FL RX10 172 7 9 true := ⟨_, rfl, by decide, rfl, g_mem 329 (by decide +kernel) (by decide +kernel)⟩
theorem fl_X10_182 : g_FL RX10 182 7 5 true := ⟨_, rfl, by decide, rfl, g_mem 317 (by decide +kernel) (by decide +kernel)⟩
theorem fl_X10_185 : g_FL RX10 185 7 6 true := ⟨_, rfl, by decide, rfl, g_mem 321 (by decide +kernel) (by decide +kernel)⟩
theorem fl_X10_20 : g_FL RX10 20 10 2 true := ⟨_, rfl, by decide, rfl, g_mem 463 (by decide +kernel) (by decide +kernel)⟩
theorem fl_X10_215 : g_FL RX10 215 7 1 false := ⟨_, rfl, by decide, rfl, g_mem 306 (by decide +kernel) (by decide +kernel)⟩
theorem fl_X10_218 : g_FL RX10 218 7 7 false := ⟨_, rfl, by decide, rfl, g_mem 325 (by decide +kernel) (by decide +kernel)⟩
theorem fl_X10_24 : g_FL RX10 24 10 3 true := ⟨_, rfl, by decide, rfl, g_mem 464 (by decide +kernel) (by decide +kernel)⟩
theorem fl_X10_270 : g_FL RX10 270 9 10 false := ⟨_, rfl, by decide, rfl, g_mem 107 (by decide +kernel) (by decide +kernel)⟩
theorem fl_X10_293 : g_FL RX10 293 4 1 false := ⟨_, rfl, by decide, rfl, g_mem 398 (by decide +kernel) (by decide +kernel)⟩
theorem fl_X10_296 : g_FL RX10 296 4 0 false := ⟨_, rfl, by decide, rfl, g_mem 396 (by decide +kernel) (by decide +kernel)⟩
theorem fl_X10_299 : g_FL RX10 299 4 2 true := ⟨_, rfl, by decide, rfl, g_mem 400 (by decide +kernel) (by decide +kernel)⟩
theorem fl_X10_302 : g_FL RX10 302 9 0 true := ⟨_, rfl, by decide, rfl, g_mem 73 (by decide +kernel) (by decide +kernel)⟩
theorem fl_X10_32 : g_FL RX10 32 10 4 true := ⟨_, rfl, by decide, rfl, g_mem 465 (by decide +kernel) (by decide +kernel)⟩
theorem fl_X10_324 : g_FL RX10 324 9 11 false := ⟨_, rfl, by decide, rfl, g_mem 111 (by decide +kernel) (by decide +kernel)⟩
theorem fl_X10_342 : g_FL RX10 342 6 0 false := ⟨_, rfl, by decide, rfl, g_mem 421 (by decide +kernel) (by decide +kernel)⟩
theorem fl_X10_36 : g_FL RX10 36 10 5 false := ⟨_, rfl, by decide, rfl, g_mem 466 (by decide +kernel) (by decide +kernel)⟩
theorem fl_X10_361 : g_FL RX10 361 7 2 false := ⟨_, rfl, by decide, rfl, g_mem 309 (by decide +kernel) (by decide +kernel)⟩
theorem fl_X10_373 : g_FL RX10 373 3 0 false := ⟨_, rfl, by decide, rfl, g_mem 454 (by decide +kernel) (by decide +kernel)⟩
theorem fl_X10_377 : g_FL RX10 377 9 8 false := ⟨_, rfl, by decide, rfl, g_mem 101 (by decide +kernel) (by decide +kernel)⟩
theorem fl_X10_380 : g_FL RX10 380 9 13 true := ⟨_, rfl, by decide, rfl, g_mem 118 (by decide +kernel) (by decide +kernel)⟩
theorem fl_X10_384 : g_FL RX10 384 2 3 false := ⟨_, rfl, by decide, rfl, g_mem 53 (by decide +kernel) (by decide +kernel)⟩
theorem fl_X10_387 : g_FL RX10 387 7 3 false := ⟨_, rfl, by decide, rfl, g_mem 312 (by decide +kernel) (by decide +kernel)⟩
theorem fl_X10_39 : g_FL RX10 39 10 6 false := ⟨_, rfl, by decide, rfl, g_mem 467 (by decide +kernel) (by decide +kernel)⟩
theorem fl_X10_47 : g_FL RX10 47 10 7 true := ⟨_, rfl, by decide, rfl, g_mem 468 (by decide +kernel) (by decide +kernel)⟩
theorem fl_X10_51 : g_FL RX10 51 10 8 true := ⟨_, rfl, by decide, rfl, g_mem 469 (by decide +kernel) (by decide +kernel)⟩
theorem fl_X10_54 : g_FL RX10 54 10 9 false := ⟨_, rfl, by decide, rfl, g_mem 470 (by decide +kernel) (by decide +kernel)⟩
theorem fl_X10_58 : g_FL RX10 58 10 10 true := ⟨_, rfl, by decide, rfl, g_mem 471 (by decide +kernel) (by decide +kernel)⟩
theorem fl_X10_66 : g_FL RX10 66 10 11 true := ⟨_, rfl, by decide, rfl, g_mem 472 (by decide +kernel) (by decide +kernel)⟩
theorem fl_X10_70 : g_FL RX10 70 10 12 true := ⟨_, rfl, by decide, rfl, g_mem 473 (by decide +kernel) (by decide +kernel)⟩
theorem fl_X10_77 : g_FL RX10 77 10 13 true := ⟨_, rfl, by decide, rfl, g_mem 474 (by decide +kernel) (by decide +kernel)⟩
theorem fl_X10_84 : g_FL RX10 84 10 14 true := ⟨_, rfl, by decide, rfl, g_mem 475 (by decide +kernel) (by decide +kernel)⟩
theorem fl_X10_9 : g_FL RX10 9 10 0 true := ⟨_, rfl, by decide, rfl, g_mem 461 (by decide +kernel) (by decide +kernel)⟩
theorem fl_X10_91 : g_FL RX10 91 10 15 true := ⟨_, rfl, by decide, rfl, g_mem 476 (by decide +kernel) (by decide +kernel)⟩
theorem fl_X11_102 : g_FL RX11 102 11 45 true := ⟨_, rfl, by decide, rfl, g_mem 1350 (by decide +kernel) (by decide +kernel)⟩
theorem fl_X11_105 : g_FL RX11 105 11 46 true := ⟨_, rfl, by decide, rfl, g_mem 1351 (by decide +kernel) (by decide +kernel)⟩
theorem fl_X11_108 : g_FL RX11 108 11 47 true := ⟨_, rfl, by decide, rfl, g_mem 1352 (by decide +kernel) (by decide +kernel)⟩
theorem fl_X11_111 : g_FL RX11 111 11 48 true := ⟨_, rfl, by decide, rfl, g_mem 1353 (by decide +kernel) (by decide +kernel)⟩
theorem fl_X11_114 : g_FL RX11 114 11 49 true := ⟨_, rfl, by decide, rfl, g_mem 1354 (by decide +kernel) (by decide +kernel)⟩
theorem fl_X11_117 : g_FL RX11 117 11 50 true := ⟨_, rfl, by decide, rfl, g_mem 1355 (by decide +kernel) (by decide +kernel)⟩
theorem fl_X11_120 : g_FL RX11 120 11 54 false := ⟨_, rfl, by decide, rfl, g_mem 1359 (by decide +kernel) (by decide +kernel)⟩
theorem fl_X11_123 : g_FL RX11 123 11 55 false := ⟨_, rfl, by decide, rfl, g_mem 1360 (by decide +kernel) (by decide +kernel)⟩
theorem fl_X11_126 : g_FL RX11 126 11 59 true := ⟨_, rfl, by decide, rfl, g_mem 1364 (by decide +kernel) (by decide +kernel)⟩
theorem fl_X11_129 : g_FL RX11 129 11 60 true := ⟨_, rfl, by decide, rfl, g_mem 1365 (by decide +kernel) (by decide +kernel)⟩
theorem fl_X11_13 : g_FL RX11 13 11 3 true := ⟨_, rfl, by decide, rfl, g_mem 1308 (by decide +kernel) (by decide +kernel)⟩
theorem fl_X11_132 : g_FL RX11 132 11 61 true := ⟨_, rfl, by decide, rfl, g_mem 1366 (by decide +kernel) (by decide +kernel)⟩
theorem fl_X11_135 : g_FL RX11 135 11 66 false := ⟨_, rfl, by decide, rfl, g_mem 1371 (by decide +kernel) (by decide +kernel)⟩
theorem fl_X11_138 : g_FL RX11 138 11 67 true := ⟨_, rfl, by decide, rfl, g_mem 1372 (by decide +kernel) (by decide +kernel)⟩
theorem fl_X11_141 : g_FL RX11 141 11 68 true := ⟨_, rfl, by decide, rfl, g_mem 1373 (by decide +kernel) (by decide +kernel)⟩
theorem fl_X11_144 : g_FL RX11 144 11 69 true := ⟨_, rfl, by decide, rfl, g_mem 1374 (by decide +kernel) (by decide +kernel)⟩
theorem fl_X11_148 : g_FL RX11 148 11 70 true := ⟨_, rfl, by decide, rfl, g_mem 1375 (by decide +kernel) (by decide +kernel)⟩
theorem fl_X11_151 : g_FL RX11 151 11 71 true := ⟨_, rfl, by decide, rfl, g_mem 1376 (by decide +kernel) (by decide +kernel)⟩
theorem fl_X11_157 : g_FL RX11 157 11 0 false := ⟨_, rfl, by decide, rfl, g_mem 1305 (by decide +kernel) (by decide +kernel)⟩
theorem fl_X11_16 : g_FL RX11 16 11 4 true := ⟨_, rfl, by decide, rfl, g_mem 1309 (by decide +kernel) (by decide +kernel)⟩
theorem fl_X11_160 : g_FL RX11 160 11 2 false := ⟨_, rfl, by decide, rfl, g_mem 1307 (by decide +kernel) (by decide +kernel)⟩
theorem fl_X11_163 : g_FL RX11 163 11 26 false := ⟨_, rfl, by decide, rfl, g_mem 1331 (by decide +kernel) (by decide +kernel)⟩
theorem fl_X11_166 : g_FL RX11 166 11 25 false := ⟨_, rfl, by decide, rfl, g_mem 1330 (by decide +kernel) (by decide +kernel)⟩
theorem fl_X11_173 : g_FL RX11 173 11 27 false := ⟨_, rfl, by decide, rfl, g_mem 1332 (by decide +kernel) (by decide +kernel)⟩
theorem fl_X11_176 : g_FL RX11 176 11 28 false := ⟨_, rfl, by decide, rfl, g_mem 1333 (by decide +kernel) (by decide +kernel)⟩
theorem fl_X11_186 : g_FL RX11 186 11 29 false := ⟨_, rfl, by decide, rfl, g_mem 1334 (by decide +kernel) (by decide +kernel)⟩
theorem fl_X11_19 : g_FL RX11 19 11 5 true := ⟨_, rfl, by decide, rfl, g_mem 1310 (by decide +kernel) (by decide +kernel)⟩
theorem fl_X11_211 : g_FL RX11 211 11 30 false := ⟨_, rfl, by decide, rfl, g_mem 1335 (by decide +kernel) (by decide +kernel)⟩
theorem fl_X11_214 : g_FL RX11 214 11 31 false := ⟨_, rfl, by decide, rfl, g_mem 1336 (by decide +kernel) (by decide +kernel)⟩
theorem fl_X11_22 : g_FL RX11 22 11 6 true := ⟨_, rfl, by decide, rfl, g_mem 1311 (by decide +kernel) (by decide +kernel)⟩
theorem fl_X11_241 : g_FL RX11 241 11 23 false := ⟨_, rfl, by decide, rfl, g_mem 1328 (by decide +kernel) (by decide +kernel)⟩
theorem fl_X11_25 : g_FL RX11 25 11 7 true := ⟨_, rfl, by decide, rfl, g_mem 1312 (by decide +kernel) (by decide +kernel)⟩
theorem fl_X11_267 : g_FL RX11 267 11 24 false := ⟨_, rfl, by decide, rfl, g_mem 1329 (by decide +kernel) (by decide +kernel)⟩
theorem fl_X11_273 : g_FL RX11 273 11 35 false := ⟨_, rfl, by decide, rfl, g_mem 1340 (by decide +kernel) (by decide +kernel)⟩
theorem fl_X11_28 : g_FL RX11 28 11 8 true := ⟨_, rfl, by decide, rfl, g_mem 1313 (by decide +kernel) (by decide +kernel)⟩
theorem fl_X11_300 : g_FL RX11 300 11 34 false := ⟨_, rfl, by decide, rfl, g_mem 1339 (by decide +kernel) (by decide +kernel)⟩
theorem fl_X11_306 : g_FL RX11 306 11 32 false := ⟨_, rfl, by decide, rfl, g_mem 1337 (by decide +kernel) (by decide +kernel)⟩
theorem fl_X11_31 : g_FL RX11 31 11 9 true := ⟨_, rfl, by decide, rfl, g_mem 1314 (by decide +kernel) (by decide +kernel)⟩
theorem fl_X11_313 : g_FL RX11 313 11 65 false := ⟨_, rfl, by decide, rfl, g_mem 1370 (by decide +kernel) (by decide +kernel)⟩
theorem fl_X11_316 : g_FL RX11 316 11 51 false := ⟨_, rfl, by decide, rfl, g_mem 1356 (by decide +kernel) (by decide +kernel)⟩
theorem fl_X11_320 : g_FL RX11 320 11 52 false := ⟨_, rfl, by decide, rfl, g_mem 1357 (by decide +kernel) (by decide +kernel)⟩
theorem fl_X11_323 : g_FL RX11 323 11 38 false := ⟨_, rfl, by decide, rfl, g_mem 1343 (by decide +kernel) (by decide +kernel)⟩
theorem fl_X11_34 : g_FL RX11 34 11 10 true := ⟨_, rfl, by decide, rfl, g_mem 1315 (by decide +kernel) (by decide +kernel)⟩
theorem fl_X11_346 : g_FL RX11 346 11 56 false := ⟨_, rfl, by decide, rfl, g_mem 1361 (by decide +kernel) (by decide +kernel)⟩
theorem fl_X11_37 : g_FL RX11 37 11 11 true := ⟨_, rfl, by decide, rfl, g_mem 1316 (by decide +kernel) (by decide +kernel)⟩
theorem fl_X11_382 : g_FL RX11 382 11 53 false := ⟨_, rfl, by decide, rfl, g_mem 1358 (by decide +kernel) (by decide +kernel)⟩
theorem fl_X11_40 : g_FL RX11 40 11 12 true := ⟨_, rfl, by decide, rfl, g_mem 1317 (by decide +kernel) (by decide +kernel)⟩
theorem fl_X11_43 : g_FL RX11 43 11 13 true := ⟨_, rfl, by decide, rfl, g_mem 1318 (by decide +kernel) (by decide +kernel)⟩
theorem fl_X11_46 : g_FL RX11 46 11 14 true := ⟨_, rfl, by decide, rfl, g_mem 1319 (by decide +kernel) (by decide +kernel)⟩
theorem fl_X11_466 : g_FL RX11 466 11 57 false := ⟨_, rfl, by decide, rfl, g_mem 1362 (by decide +kernel) (by decide +kernel)⟩
theorem fl_X11_469 : g_FL RX11 469 11 58 false := ⟨_, rfl, by decide, rfl, g_mem 1363 (by decide +kernel) (by decide +kernel)⟩
theorem fl_X11_475 : g_FL RX11 475 11 62 false := ⟨_, rfl, by decide, rfl, g_mem 1367 (by decide +kernel) (by decide +kernel)⟩
theorem fl_X11_484 : g_FL RX11 484 11 64 false := ⟨_, rfl, by decide, rfl, g_mem 1369 (by decide +kernel) (by decide +kernel)⟩
theorem fl_X11_487 : g_FL RX11 487 11 63 false := ⟨_, rfl, by decide, rfl, g_mem 1368 (by decide +kernel) (by decide +kernel)⟩
theorem fl_X11_49 : g_FL RX11 49 11 15 true := ⟨_, rfl, by decide, rfl, g_mem 1320 (by decide +kernel) (by decide +kernel)⟩
theorem fl_X11_52 : g_FL RX11 52 11 16 true := ⟨_, rfl, by decide, rfl, g_mem 1321 (by decide +kernel) (by decide +kernel)⟩
theorem fl_X11_55 : g_FL RX11 55 11 17 true := ⟨_, rfl, by decide, rfl, g_mem 1322 (by decide +kernel) (by decide +kernel)⟩
theorem fl_X11_58 : g_FL RX11 58 11 18 true := ⟨_, rfl, by decide, rfl, g_mem 1323 (by decide +kernel) (by decide +kernel)⟩
theorem fl_X11_61 : g_FL RX11 61 11 19 true := ⟨_, rfl, by decide, rfl, g_mem 1324 (by decide +kernel) (by decide +kernel)⟩
theorem fl_X11_64 : g_FL RX11 64 11 20 true := ⟨_, rfl, by decide, rfl, g_mem 1325 (by decide +kernel) (by decide +kernel)⟩
theorem fl_X11_67 : g_FL RX11 67 11 21 true := ⟨_, rfl, by decide, rfl, g_mem 1326 (by decide +kernel) (by decide +kernel)⟩
theorem fl_X11_7 : g_FL RX11 7 11 1 true := ⟨_, rfl, by decide, rfl, g_mem 1306 (by decide +kernel) (by decide +kernel)⟩
theorem fl_X11_70 : g_FL RX11 70 11 22 true := ⟨_, rfl, by decide, rfl, g_mem 1327 (by decide +kernel) (by decide +kernel)⟩
theorem fl_X11_73 : g_FL RX11 73 11 33 false := ⟨_, rfl, by decide, rfl, g_mem 1338 (by decide +kernel) (by decide +kernel)⟩
theorem fl_X11_77 : g_FL RX11 77 11 36 true := ⟨_, rfl, by decide, rfl, g_mem 1341 (by decide +kernel) (by decide +kernel)⟩
theorem fl_X11_81 : g_FL RX11 81 11 37 true := ⟨_, rfl, by decide, rfl, g_mem 1342 (by decide +kernel) (by decide +kernel)⟩
theorem fl_X11_84 : g_FL RX11 84 11 39 true := ⟨_, rfl, by decide, rfl, g_mem 1344 (by decide +kernel) (by decide +kernel)⟩
theorem fl_X11_87 : g_FL RX11 87 11 40 true := ⟨_, rfl, by decide, rfl, g_mem 1345 (by decide +kernel) (by decide +kernel)⟩
theorem fl_X11_90 : g_FL RX11 90 11 41 true := ⟨_, rfl, by decide, rfl, g_mem 1346 (by decide +kernel) (by decide +kernel)⟩
theorem fl_X11_93 : g_FL RX11 93 11 42 true := ⟨_, rfl, by decide, rfl, g_mem 1347 (by decide +kernel) (by decide +kernel)⟩
theorem fl_X11_96 : g_FL RX11 96 11 43 true := ⟨_, rfl, by decide, rfl, g_mem 1348 (by decide +kernel) (by decide +kernel)⟩
theorem fl_X11_99 : g_FL RX11 99 11 44 true := ⟨_, rfl, by decide, rfl, g_mem 1349 (by decide +kernel) (by decide +kernel)⟩
theorem fl_X1_112 : g_FL RX1 112 2 0 true := ⟨_, rfl, by decide, rfl, g_mem 46 (by decide +kernel) (by decide +kernel)⟩
theorem fl_X1_13 : g_FL RX1 13 1 0 true := ⟨_, rfl, by decide, rfl, g_mem 242 (by decide +kernel) (by decide +kernel)⟩
theorem fl_X1_17 : g_FL RX1 17 1 1 false := ⟨_, rfl, by decide, rfl, g_mem 243 (by decide +kernel) (by decide +kernel)⟩
theorem fl_X1_21 : g_FL RX1 21 1 2 false := ⟨_, rfl, by decide, rfl, g_mem 244 (by decide +kernel) (by decide +kernel)⟩
theorem fl_X1_24 : g_FL RX1 24 1 3 false := ⟨_, rfl, by decide, rfl, g_mem 245 (by decide +kernel) (by decide +kernel)⟩
theorem fl_X1_27 : g_FL RX1 27 1 4 false := ⟨_, rfl, by decide, rfl, g_mem 246 (by decide +kernel) (by decide +kernel)⟩
theorem fl_X1_31 : g_FL RX1 31 1 5 true := ⟨_, rfl, by decide, rfl, g_mem 247 (by decide +kernel) (by decide +kernel)⟩
theorem fl_X1_35 : g_FL RX1 35 1 6 true := ⟨_, rfl, by decide, rfl, g_mem 248 (by decide +kernel) (by decide +kernel)⟩
theorem fl_X1_39 : g_FL RX1 39 2 3 false := ⟨_, rfl, by decide, rfl, g_mem 52 (by decide +kernel) (by decide +kernel)⟩
theorem fl_X1_42 : g_FL RX1 42 2 1 true := ⟨_, rfl, by decide, rfl, g_mem 48 (by decide +kernel) (by decide +kernel)⟩
theorem fl_X1_72 : g_FL RX1 72 2 2 true := ⟨_, rfl, by decide, rfl, g_mem 50 (by decide +kernel) (by decide +kernel)⟩
theorem fl_X1_88 : g_FL RX1 88 8 0 false := ⟨_, rfl, by decide, rfl, g_mem 211 (by decide +kernel) (by decide +kernel)⟩
theorem fl_X1_91 : g_FL RX1 91 8 2 false := ⟨_, rfl, by decide, rfl, g_mem 215 (by decide +kernel) (by decide +kernel)⟩
theorem fl_X2_13 : g_FL RX2 13 2 0 true := ⟨_, rfl, by decide, rfl, g_mem 45 (by decide +kernel) (by decide +kernel)⟩
theorem fl_X2_17 : g_FL RX2 17 2 1 true := ⟨_, rfl, by decide, rfl, g_mem 47 (by decide +kernel) (by decide +kernel)⟩
theorem fl_X2_20 : g_FL RX2 20 2 2 true := ⟨_, rfl, by decide, rfl, g_mem 49 (by decide +kernel) (by decide +kernel)⟩
theorem fl_X2_27 : g_FL RX2 27 2 4 true := ⟨_, rfl, by decide, rfl, g_mem 54 (by decide +kernel) (by decide +kernel)⟩
theorem fl_X3_15 : g_FL RX3 15 3 1 true := ⟨_, rfl, by decide, rfl, g_mem 455 (by decide +kernel) (by decide +kernel)⟩
theorem fl_X3_9 : g_FL RX3 9 3 0 false := ⟨_, rfl, by decide, rfl, g_mem 453 (by decide +kernel) (by decide +kernel)⟩
theorem fl_X4_15 : g_FL RX4 15 4 1 false := ⟨_, rfl, by decide, rfl, g_mem 397 (by decide +kernel) (by decide +kernel)⟩
theorem fl_X4_18 : g_FL RX4 18 4 2 true := ⟨_, rfl, by decide, rfl, g_mem 399 (by decide +kernel) (by decide +kernel)⟩
theorem fl_X4_22 : g_FL RX4 22 4 3 false := ⟨_, rfl, by decide, rfl, g_mem 401 (by decide +kernel) (by decide +kernel)⟩
theorem fl_X4_26 : g_FL RX4 26 4 4 true := ⟨_, rfl, by decide, rfl, g_mem 402 (by decide +kernel) (by decide +kernel)⟩
theorem fl_X4_29 : g_FL RX4 29 7 7 false := ⟨_, rfl, by decide, rfl, g_mem 323 (by decide +kernel) (by decide +kernel)⟩
theorem fl_X4_41 : g_FL RX4 41 7 1 false := ⟨_, rfl, by decide, rfl, g_mem 305 (by decide +kernel) (by decide +kernel)⟩
theorem fl_X4_9 : g_FL RX4 9 4 0 false := ⟨_, rfl, by decide, rfl, g_mem 395 (by decide +kernel) (by decide +kernel)⟩
theorem fl_X5_129 : g_FL RX5 129 9 2 true := ⟨_, rfl, by decide, rfl, g_mem 78 (by decide +kernel) (by decide +kernel)⟩
theorem fl_X5_133 : g_FL RX5 133 9 3 true := ⟨_, rfl, by decide, rfl, g_mem 82 (by decide +kernel) (by decide +kernel)⟩
theorem fl_X5_136 : g_FL RX5 136 9 4 true := ⟨_, rfl, by decide, rfl, g_mem 86 (by decide +kernel) (by decide +kernel)⟩
theorem fl_X5_139 : g_FL RX5 139 9 5 true := ⟨_, rfl, by decide, rfl, g_mem 89 (by decide +kernel) (by decide +kernel)⟩
theorem fl_X5_142 : g_FL RX5 142 9 6 false := ⟨_, rfl, by decide, rfl, g_mem 93 (by decide +kernel) (by decide +kernel)⟩
theorem fl_X5_149 : g_FL RX5 149 9 7 true := ⟨_, rfl, by decide, rfl, g_mem 96 (by decide +kernel) (by decide +kernel)⟩
theorem fl_X5_152 : g_FL RX5 152 9 8 false := ⟨_, rfl, by decide, rfl, g_mem 99 (by decide +kernel) (by decide +kernel)⟩
theorem fl_X5_155 : g_FL RX5 155 9 9 true := ⟨_, rfl, by decide, rfl, g_mem 103 (by decide +kernel) (by decide +kernel)⟩
theorem fl_X5_177 : g_FL RX5 177 9 0 true := ⟨_, rfl, by decide, rfl, g_mem 72 (by decide +kernel) (by decide +kernel)⟩
theorem fl_X5_18 : g_FL RX5 18 5 2 false := ⟨_, rfl, by decide, rfl, g_mem 268 (by decide +kernel) (by decide +kernel)⟩
theorem fl_X5_183 : g_FL RX5 183 9 1 true := ⟨_, rfl, by decide, rfl, g_mem 75 (by decide +kernel) (by decide +kernel)⟩
theorem fl_X5_21 : g_FL RX5 21 5 6 false := ⟨_, rfl, by decide, rfl, g_mem 273 (by decide +kernel) (by decide +kernel)⟩
theorem fl_X5_25 : g_FL RX5 25 5 7 false := ⟨_, rfl, by decide, rfl, g_mem 274 (by decide +kernel) (by decide +kernel)⟩
theorem fl_X5_28 : g_FL RX5 28 5 8 false := ⟨_, rfl, by decide, rfl, g_mem 275 (by decide +kernel) (by decide +kernel)⟩
theorem fl_X5_31 : g_FL RX5 31 5 5 true := ⟨_, rfl, by decide, rfl, g_mem 272 (by decide +kernel) (by decide +kernel)⟩
theorem fl_X5_40 : g_FL RX5 40 5 3 true := ⟨_, rfl, by decide, rfl, g_mem 270 (by decide +kernel) (by decide +kernel)⟩
theorem fl_X5_46 : g_FL RX5 46 9 13 true := ⟨_, rfl, by decide, rfl, g_mem 115 (by decide +kernel) (by decide +kernel)⟩
theorem fl_X5_55 : g_FL RX5 55 5 4 true := ⟨_, rfl, by decide, rfl, g_mem 271 (by decide +kernel) (by decide +kernel)⟩
theorem fl_X5_69 : g_FL RX5 69 8 0 false := ⟨_, rfl, by decide, rfl, g_mem 210 (by decide +kernel) (by decide +kernel)⟩
theorem fl_X5_78 : g_FL RX5 78 8 1 false := ⟨_, rfl, by decide, rfl, g_mem 213 (by decide +kernel) (by decide +kernel)⟩
theorem fl_X5_9 : g_FL RX5 9 5 0 false := ⟨_, rfl, by decide, rfl, g_mem 264 (by decide +kernel) (by decide +kernel)⟩
theorem fl_X5_92 : g_FL RX5 92 8 2 false := ⟨_, rfl, by decide, rfl, g_mem 216 (by decide +kernel) (by decide +kernel)⟩
theorem fl_X6_15 : g_FL RX6 15 6 1 false := ⟨_, rfl, by decide, rfl, g_mem 422 (by decide +kernel) (by decide +kernel)⟩
theorem fl_X6_18 : g_FL RX6 18 6 2 true := ⟨_, rfl, by decide, rfl, g_mem 424 (by decide +kernel) (by decide +kernel)⟩
theorem fl_X6_22 : g_FL RX6 22 6 3 true := ⟨_, rfl, by decide, rfl, g_mem 425 (by decide +kernel) (by decide +kernel)⟩
theorem fl_X6_25 : g_FL RX6 25 6 4 true := ⟨_, rfl, by decide, rfl, g_mem 426 (by decide +kernel) (by decide +kernel)⟩
theorem fl_X6_28 : g_FL RX6 28 6 5 true := ⟨_, rfl, by decide, rfl, g_mem 427 (by decide +kernel) (by decide +kernel)⟩
theorem fl_X6_32 : g_FL RX6 32 6 6 true := ⟨_, rfl, by decide, rfl, g_mem 428 (by decide +kernel) (by decide +kernel)⟩
theorem fl_X6_35 : g_FL RX6 35 6 7 true := ⟨_, rfl, by decide, rfl, g_mem 429 (by decide +kernel) (by decide +kernel)⟩
theorem fl_X6_52 : g_FL RX6 52 7 6 true := ⟨_, rfl, by decide, rfl, g_mem 320 (by decide +kernel) (by decide +kernel)⟩
theorem fl_X6_9 : g_FL RX6 9 6 0 false := ⟨_, rfl, by decide, rfl, g_mem 420 (by decide +kernel) (by decide +kernel)⟩
theorem fl_X7_15 : g_FL RX7 15 7 2 false := ⟨_, rfl, by decide, rfl, g_mem 307 (by decide +kernel) (by decide +kernel)⟩
theorem fl_X7_18 : g_FL RX7 18 7 3 false := ⟨_, rfl, by decide, rfl, g_mem 310 (by decide +kernel) (by decide +kernel)⟩
theorem fl_X7_21 : g_FL RX7 21 7 4 true := ⟨_, rfl, by decide, rfl, g_mem 313 (by decide +kernel) (by decide +kernel)⟩
theorem fl_X7_25 : g_FL RX7 25 7 5 true := ⟨_, rfl, by decide, rfl, g_mem 316 (by decide +kernel) (by decide +kernel)⟩
theorem fl_X7_28 : g_FL RX7 28 7 6 true := ⟨_, rfl, by decide, rfl, g_mem 318 (by decide +kernel) (by decide +kernel)⟩
theorem fl_X7_31 : g_FL RX7 31 7 7 false := ⟨_, rfl, by decide, rfl, g_mem 322 (by decide +kernel) (by decide +kernel)⟩
theorem fl_X7_34 : g_FL RX7 34 7 8 true := ⟨_, rfl, by decide, rfl, g_mem 326 (by decide +kernel) (by decide +kernel)⟩
theorem fl_X7_37 : g_FL RX7 37 7 9 true := ⟨_, rfl, by decide, rfl, g_mem 327 (by decide +kernel) (by decide +kernel)⟩
theorem fl_X7_40 : g_FL RX7 40 7 0 true := ⟨_, rfl, by decide, rfl, g_mem 302 (by decide +kernel) (by decide +kernel)⟩
theorem fl_X7_44 : g_FL RX7 44 9 12 false := ⟨_, rfl, by decide, rfl, g_mem 113 (by decide +kernel) (by decide +kernel)⟩
theorem fl_X7_49 : g_FL RX7 49 9 6 false := ⟨_, rfl, by decide, rfl, g_mem 92 (by decide +kernel) (by decide +kernel)⟩
theorem fl_X7_50 : g_FL RX7 50 9 2 true := ⟨_, rfl, by decide, rfl, g_mem 77 (by decide +kernel) (by decide +kernel)⟩
theorem fl_X7_57 : g_FL RX7 57 9 7 true := ⟨_, rfl, by decide, rfl, g_mem 95 (by decide +kernel) (by decide +kernel)⟩
theorem fl_X7_73 : g_FL RX7 73 9 0 true := ⟨_, rfl, by decide, rfl, g_mem 71 (by decide +kernel) (by decide +kernel)⟩
theorem fl_X7_85 : g_FL RX7 85 9 5 true := ⟨_, rfl, by decide, rfl, g_mem 90 (by decide +kernel) (by decide +kernel)⟩
theorem fl_X7_88 : g_FL RX7 88 9 8 false := ⟨_, rfl, by decide, rfl, g_mem 100 (by decide +kernel) (by decide +kernel)⟩
theorem fl_X7_9 : g_FL RX7 9 7 1 false := ⟨_, rfl, by decide, rfl, g_mem 303 (by decide +kernel) (by decide +kernel)⟩
theorem fl_X8_11 : g_FL RX8 11 8 0 false := ⟨_, rfl, by decide, rfl, g_mem 209 (by decide +kernel) (by decide +kernel)⟩
theorem fl_X8_15 : g_FL RX8 15 8 1 false := ⟨_, rfl, by decide, rfl, g_mem 212 (by decide +kernel) (by decide +kernel)⟩
theorem fl_X8_18 : g_FL RX8 18 8 2 false := ⟨_, rfl, by decide, rfl, g_mem 214 (by decide +kernel) (by decide +kernel)⟩
theorem fl_X8_21 : g_FL RX8 21 8 4 false := ⟨_, rfl, by decide, rfl, g_mem 218 (by decide +kernel) (by decide +kernel)⟩
theorem fl_X8_24 : g_FL RX8 24 8 5 false := ⟨_, rfl, by decide, rfl, g_mem 219 (by decide +kernel) (by decide +kernel)⟩
theorem fl_X8_27 : g_FL RX8 27 8 6 true := ⟨_, rfl, by decide, rfl, g_mem 220 (by decide +kernel) (by decide +kernel)⟩
theorem fl_X8_31 : g_FL RX8 31 8 3 true := ⟨_, rfl, by decide, rfl, g_mem 217 (by decide +kernel) (by decide +kernel)⟩
theorem fl_X9_15 : g_FL RX9 15 9 1 true := ⟨_, rfl, by decide, rfl, g_mem 74 (by decide +kernel) (by decide +kernel)⟩
theorem fl_X9_40 : g_FL RX9 40 9 9 true := ⟨_, rfl, by decide, rfl, g_mem 102 (by decide +kernel) (by decide +kernel)⟩
theorem fl_X9_55 : g_FL RX9 55 9 13 true := ⟨_, rfl, by decide, rfl, g_mem 116 (by decide +kernel) (by decide +kernel)⟩
theorem fl_X9_9 : g_FL RX9 9 9 0 true := ⟨_, rfl, by decide, rfl, g_mem 69 (by decide +kernel) (by decide +kernel)⟩
theorem fp_X0_146 : g_FP RX0 146 7 2 .int := ⟨_, rfl, by decide, rfl, rfl, g_mem 308 (by decide +kernel) (by decide +kernel)⟩
theorem fp_X0_15 : g_FP RX0 15 0 1 .boolean := ⟨_, rfl, by decide, rfl, rfl, g_mem 359 (by decide +kernel) (by decide +kernel)⟩
theorem fp_X0_19 : g_FP RX0 19 0 2 .int := ⟨_, rfl, by decide, rfl, rfl, g_mem 361 (by decide +kernel) (by decide +kernel)⟩
theorem fp_X0_22 : g_FP RX0 22 0 5 .int := ⟨_, rfl, by decide, rfl, rfl, g_mem 365 (by decide +kernel) (by decide +kernel)⟩
theorem fp_X0_29 : g_FP RX0 29 0 7 .int := ⟨_, rfl, by decide, rfl, rfl, g_mem 367 (by decide +kernel) (by decide +kernel)⟩
theorem fp_X0_38 : g_FP RX0 38 0 3 (.object "PartsFerry$State") := ⟨_, rfl, by decide, rfl, rfl, g_mem 363 (by decide +kernel) (by decide +kernel)⟩
theorem fp_X0_48 : g_FP RX0 48 0 4 (.object "PartsFerry$Told") := ⟨_, rfl, by decide, rfl, rfl, g_mem 364 (by decide +kernel) (by decide +kernel)⟩
theorem fp_X0_62 : g_FP RX0 62 7 3 .int := ⟨_, rfl, by decide, rfl, rfl, g_mem 311 (by decide +kernel) (by decide +kernel)⟩
theorem fp_X0_70 : g_FP RX0 70 7 1 .int := ⟨_, rfl, by decide, rfl, rfl, g_mem 304 (by decide +kernel) (by decide +kernel)⟩
theorem fp_X0_9 : g_FP RX0 9 0 0 .int := ⟨_, rfl, by decide, rfl, rfl, g_mem 357 (by decide +kernel) (by decide +kernel)⟩
theorem fp_X10_13 : g_FP RX10 13 10 1 .int := ⟨_, rfl, by decide, rfl, rfl, g_mem 462 (by decide +kernel) (by decide +kernel)⟩
theorem fp_X10_20 : g_FP RX10 20 10 2 (.object "PartsFerry$Told") := ⟨_, rfl, by decide, rfl, rfl, g_mem 463 (by decide +kernel) (by decide +kernel)⟩
theorem fp_X10_218 : g_FP RX10 218 7 7 .int := ⟨_, rfl, by decide, rfl, rfl, g_mem 325 (by decide +kernel) (by decide +kernel)⟩
theorem fp_X10_24 : g_FP RX10 24 10 3 (.object "PartsFerry$Told") := ⟨_, rfl, by decide, rfl, rfl, g_mem 464 (by decide +kernel) (by decide +kernel)⟩
theorem fp_X10_351 : g_FP RX10 351 6 1 .int := ⟨_, rfl, by decide, rfl, rfl, g_mem 423 (by decide +kernel) (by decide +kernel)⟩
theorem fp_X10_356 : g_FP RX10 356 0 0 .int := ⟨_, rfl, by decide, rfl, rfl, g_mem 358 (by decide +kernel) (by decide +kernel)⟩
theorem fp_X10_36 : g_FP RX10 36 10 5 .int := ⟨_, rfl, by decide, rfl, rfl, g_mem 466 (by decide +kernel) (by decide +kernel)⟩
theorem fp_X10_361 : g_FP RX10 361 7 2 .int := ⟨_, rfl, by decide, rfl, rfl, g_mem 309 (by decide +kernel) (by decide +kernel)⟩
theorem fp_X10_364 : g_FP RX10 364 0 2 .int := ⟨_, rfl, by decide, rfl, rfl, g_mem 362 (by decide +kernel) (by decide +kernel)⟩
theorem fp_X10_367 : g_FP RX10 367 0 1 .boolean := ⟨_, rfl, by decide, rfl, rfl, g_mem 360 (by decide +kernel) (by decide +kernel)⟩
theorem fp_X10_373 : g_FP RX10 373 3 0 .int := ⟨_, rfl, by decide, rfl, rfl, g_mem 454 (by decide +kernel) (by decide +kernel)⟩
theorem fp_X10_39 : g_FP RX10 39 10 6 .int := ⟨_, rfl, by decide, rfl, rfl, g_mem 467 (by decide +kernel) (by decide +kernel)⟩
theorem fp_X10_54 : g_FP RX10 54 10 9 .boolean := ⟨_, rfl, by decide, rfl, rfl, g_mem 470 (by decide +kernel) (by decide +kernel)⟩
theorem fp_X11_120 : g_FP RX11 120 11 54 .int := ⟨_, rfl, by decide, rfl, rfl, g_mem 1359 (by decide +kernel) (by decide +kernel)⟩
theorem fp_X11_123 : g_FP RX11 123 11 55 .int := ⟨_, rfl, by decide, rfl, rfl, g_mem 1360 (by decide +kernel) (by decide +kernel)⟩
theorem fp_X11_135 : g_FP RX11 135 11 66 .int := ⟨_, rfl, by decide, rfl, rfl, g_mem 1371 (by decide +kernel) (by decide +kernel)⟩
theorem fp_X11_157 : g_FP RX11 157 11 0 .int := ⟨_, rfl, by decide, rfl, rfl, g_mem 1305 (by decide +kernel) (by decide +kernel)⟩
theorem fp_X11_160 : g_FP RX11 160 11 2 .int := ⟨_, rfl, by decide, rfl, rfl, g_mem 1307 (by decide +kernel) (by decide +kernel)⟩
theorem fp_X11_163 : g_FP RX11 163 11 26 .int := ⟨_, rfl, by decide, rfl, rfl, g_mem 1331 (by decide +kernel) (by decide +kernel)⟩
theorem fp_X11_166 : g_FP RX11 166 11 25 .int := ⟨_, rfl, by decide, rfl, rfl, g_mem 1330 (by decide +kernel) (by decide +kernel)⟩
theorem fp_X11_173 : g_FP RX11 173 11 27 .int := ⟨_, rfl, by decide, rfl, rfl, g_mem 1332 (by decide +kernel) (by decide +kernel)⟩
theorem fp_X11_176 : g_FP RX11 176 11 28 .int := ⟨_, rfl, by decide, rfl, rfl, g_mem 1333 (by decide +kernel) (by decide +kernel)⟩
theorem fp_X11_186 : g_FP RX11 186 11 29 .int := ⟨_, rfl, by decide, rfl, rfl, g_mem 1334 (by decide +kernel) (by decide +kernel)⟩
theorem fp_X11_211 : g_FP RX11 211 11 30 .int := ⟨_, rfl, by decide, rfl, rfl, g_mem 1335 (by decide +kernel) (by decide +kernel)⟩
theorem fp_X11_214 : g_FP RX11 214 11 31 .int := ⟨_, rfl, by decide, rfl, rfl, g_mem 1336 (by decide +kernel) (by decide +kernel)⟩
theorem fp_X11_241 : g_FP RX11 241 11 23 .int := ⟨_, rfl, by decide, rfl, rfl, g_mem 1328 (by decide +kernel) (by decide +kernel)⟩
theorem fp_X11_267 : g_FP RX11 267 11 24 .int := ⟨_, rfl, by decide, rfl, rfl, g_mem 1329 (by decide +kernel) (by decide +kernel)⟩
theorem fp_X11_273 : g_FP RX11 273 11 35 .int := ⟨_, rfl, by decide, rfl, rfl, g_mem 1340 (by decide +kernel) (by decide +kernel)⟩
theorem fp_X11_300 : g_FP RX11 300 11 34 .int := ⟨_, rfl, by decide, rfl, rfl, g_mem 1339 (by decide +kernel) (by decide +kernel)⟩
theorem fp_X11_306 : g_FP RX11 306 11 32 .int := ⟨_, rfl, by decide, rfl, rfl, g_mem 1337 (by decide +kernel) (by decide +kernel)⟩
theorem fp_X11_313 : g_FP RX11 313 11 65 .int := ⟨_, rfl, by decide, rfl, rfl, g_mem 1370 (by decide +kernel) (by decide +kernel)⟩
theorem fp_X11_316 : g_FP RX11 316 11 51 .boolean := ⟨_, rfl, by decide, rfl, rfl, g_mem 1356 (by decide +kernel) (by decide +kernel)⟩
theorem fp_X11_320 : g_FP RX11 320 11 52 .int := ⟨_, rfl, by decide, rfl, rfl, g_mem 1357 (by decide +kernel) (by decide +kernel)⟩
theorem fp_X11_323 : g_FP RX11 323 11 38 .int := ⟨_, rfl, by decide, rfl, rfl, g_mem 1343 (by decide +kernel) (by decide +kernel)⟩
theorem fp_X11_346 : g_FP RX11 346 11 56 .int := ⟨_, rfl, by decide, rfl, rfl, g_mem 1361 (by decide +kernel) (by decide +kernel)⟩
theorem fp_X11_382 : g_FP RX11 382 11 53 .int := ⟨_, rfl, by decide, rfl, rfl, g_mem 1358 (by decide +kernel) (by decide +kernel)⟩
theorem fp_X11_466 : g_FP RX11 466 11 57 .int := ⟨_, rfl, by decide, rfl, rfl, g_mem 1362 (by decide +kernel) (by decide +kernel)⟩
theorem fp_X11_469 : g_FP RX11 469 11 58 .int := ⟨_, rfl, by decide, rfl, rfl, g_mem 1363 (by decide +kernel) (by decide +kernel)⟩
theorem fp_X11_475 : g_FP RX11 475 11 62 .int := ⟨_, rfl, by decide, rfl, rfl, g_mem 1367 (by decide +kernel) (by decide +kernel)⟩
theorem fp_X11_484 : g_FP RX11 484 11 64 .boolean := ⟨_, rfl, by decide, rfl, rfl, g_mem 1369 (by decide +kernel) (by decide +kernel)⟩
theorem fp_X11_487 : g_FP RX11 487 11 63 .int := ⟨_, rfl, by decide, rfl, rfl, g_mem 1368 (by decide +kernel) (by decide +kernel)⟩
theorem fp_X11_73 : g_FP RX11 73 11 33 .int := ⟨_, rfl, by decide, rfl, rfl, g_mem 1338 (by decide +kernel) (by decide +kernel)⟩
theorem fp_X1_17 : g_FP RX1 17 1 1 .int := ⟨_, rfl, by decide, rfl, rfl, g_mem 243 (by decide +kernel) (by decide +kernel)⟩
theorem fp_X1_21 : g_FP RX1 21 1 2 .int := ⟨_, rfl, by decide, rfl, rfl, g_mem 244 (by decide +kernel) (by decide +kernel)⟩
theorem fp_X1_24 : g_FP RX1 24 1 3 .int := ⟨_, rfl, by decide, rfl, rfl, g_mem 245 (by decide +kernel) (by decide +kernel)⟩
theorem fp_X1_27 : g_FP RX1 27 1 4 .boolean := ⟨_, rfl, by decide, rfl, rfl, g_mem 246 (by decide +kernel) (by decide +kernel)⟩
theorem fp_X1_35 : g_FP RX1 35 1 6 (.object "PartsFerry$Laws") := ⟨_, rfl, by decide, rfl, rfl, g_mem 248 (by decide +kernel) (by decide +kernel)⟩
theorem fp_X1_39 : g_FP RX1 39 2 3 .int := ⟨_, rfl, by decide, rfl, rfl, g_mem 52 (by decide +kernel) (by decide +kernel)⟩
theorem fp_X2_23 : g_FP RX2 23 2 3 .int := ⟨_, rfl, by decide, rfl, rfl, g_mem 51 (by decide +kernel) (by decide +kernel)⟩
theorem fp_X3_9 : g_FP RX3 9 3 0 .int := ⟨_, rfl, by decide, rfl, rfl, g_mem 453 (by decide +kernel) (by decide +kernel)⟩
theorem fp_X4_15 : g_FP RX4 15 4 1 .int := ⟨_, rfl, by decide, rfl, rfl, g_mem 397 (by decide +kernel) (by decide +kernel)⟩
theorem fp_X4_22 : g_FP RX4 22 4 3 .boolean := ⟨_, rfl, by decide, rfl, rfl, g_mem 401 (by decide +kernel) (by decide +kernel)⟩
theorem fp_X4_9 : g_FP RX4 9 4 0 .int := ⟨_, rfl, by decide, rfl, rfl, g_mem 395 (by decide +kernel) (by decide +kernel)⟩
theorem fp_X5_142 : g_FP RX5 142 9 6 .int := ⟨_, rfl, by decide, rfl, rfl, g_mem 93 (by decide +kernel) (by decide +kernel)⟩
theorem fp_X5_15 : g_FP RX5 15 5 1 .int := ⟨_, rfl, by decide, rfl, rfl, g_mem 266 (by decide +kernel) (by decide +kernel)⟩
theorem fp_X5_152 : g_FP RX5 152 9 8 .int := ⟨_, rfl, by decide, rfl, rfl, g_mem 99 (by decide +kernel) (by decide +kernel)⟩
theorem fp_X5_158 : g_FP RX5 158 9 10 .int := ⟨_, rfl, by decide, rfl, rfl, g_mem 106 (by decide +kernel) (by decide +kernel)⟩
theorem fp_X5_161 : g_FP RX5 161 9 11 .int := ⟨_, rfl, by decide, rfl, rfl, g_mem 110 (by decide +kernel) (by decide +kernel)⟩
theorem fp_X5_165 : g_FP RX5 165 9 12 .int := ⟨_, rfl, by decide, rfl, rfl, g_mem 114 (by decide +kernel) (by decide +kernel)⟩
theorem fp_X5_18 : g_FP RX5 18 5 2 .int := ⟨_, rfl, by decide, rfl, rfl, g_mem 268 (by decide +kernel) (by decide +kernel)⟩
theorem fp_X5_21 : g_FP RX5 21 5 6 .boolean := ⟨_, rfl, by decide, rfl, rfl, g_mem 273 (by decide +kernel) (by decide +kernel)⟩
theorem fp_X5_25 : g_FP RX5 25 5 7 .boolean := ⟨_, rfl, by decide, rfl, rfl, g_mem 274 (by decide +kernel) (by decide +kernel)⟩
theorem fp_X5_28 : g_FP RX5 28 5 8 .boolean := ⟨_, rfl, by decide, rfl, rfl, g_mem 275 (by decide +kernel) (by decide +kernel)⟩
theorem fp_X5_31 : g_FP RX5 31 5 5 (.object "PartsFerry$Told") := ⟨_, rfl, by decide, rfl, rfl, g_mem 272 (by decide +kernel) (by decide +kernel)⟩
theorem fp_X5_9 : g_FP RX5 9 5 0 .int := ⟨_, rfl, by decide, rfl, rfl, g_mem 264 (by decide +kernel) (by decide +kernel)⟩
theorem fp_X6_15 : g_FP RX6 15 6 1 .int := ⟨_, rfl, by decide, rfl, rfl, g_mem 422 (by decide +kernel) (by decide +kernel)⟩
theorem fp_X6_9 : g_FP RX6 9 6 0 .int := ⟨_, rfl, by decide, rfl, rfl, g_mem 420 (by decide +kernel) (by decide +kernel)⟩
theorem fp_X7_15 : g_FP RX7 15 7 2 .int := ⟨_, rfl, by decide, rfl, rfl, g_mem 307 (by decide +kernel) (by decide +kernel)⟩
theorem fp_X7_18 : g_FP RX7 18 7 3 .int := ⟨_, rfl, by decide, rfl, rfl, g_mem 310 (by decide +kernel) (by decide +kernel)⟩
theorem fp_X7_31 : g_FP RX7 31 7 7 .int := ⟨_, rfl, by decide, rfl, rfl, g_mem 322 (by decide +kernel) (by decide +kernel)⟩
theorem fp_X7_40 : g_FP RX7 40 7 0 (.object "PartsFerry$Told") := ⟨_, rfl, by decide, rfl, rfl, g_mem 302 (by decide +kernel) (by decide +kernel)⟩
theorem fp_X7_9 : g_FP RX7 9 7 1 .int := ⟨_, rfl, by decide, rfl, rfl, g_mem 303 (by decide +kernel) (by decide +kernel)⟩
theorem fp_X8_11 : g_FP RX8 11 8 0 .int := ⟨_, rfl, by decide, rfl, rfl, g_mem 209 (by decide +kernel) (by decide +kernel)⟩
theorem fp_X8_15 : g_FP RX8 15 8 1 .int := ⟨_, rfl, by decide, rfl, rfl, g_mem 212 (by decide +kernel) (by decide +kernel)⟩
theorem fp_X8_18 : g_FP RX8 18 8 2 .int := ⟨_, rfl, by decide, rfl, rfl, g_mem 214 (by decide +kernel) (by decide +kernel)⟩
theorem fp_X8_21 : g_FP RX8 21 8 4 .int := ⟨_, rfl, by decide, rfl, rfl, g_mem 218 (by decide +kernel) (by decide +kernel)⟩
theorem fp_X8_24 : g_FP RX8 24 8 5 .int := ⟨_, rfl, by decide, rfl, rfl, g_mem 219 (by decide +kernel) (by decide +kernel)⟩
theorem fp_X9_30 : g_FP RX9 30 9 6 .int := ⟨_, rfl, by decide, rfl, rfl, g_mem 91 (by decide +kernel) (by decide +kernel)⟩
theorem fp_X9_37 : g_FP RX9 37 9 8 .int := ⟨_, rfl, by decide, rfl, rfl, g_mem 97 (by decide +kernel) (by decide +kernel)⟩
theorem fp_X9_43 : g_FP RX9 43 9 10 .int := ⟨_, rfl, by decide, rfl, rfl, g_mem 104 (by decide +kernel) (by decide +kernel)⟩
theorem fp_X9_46 : g_FP RX9 46 9 11 .int := ⟨_, rfl, by decide, rfl, rfl, g_mem 108 (by decide +kernel) (by decide +kernel)⟩
theorem fp_X9_49 : g_FP RX9 49 9 12 .int := ⟨_, rfl, by decide, rfl, rfl, g_mem 112 (by decide +kernel) (by decide +kernel)⟩
theorem kc_J6_265 : Cond.constant RJ6 265 (1431655765) ∈ g_ws := g_mem 840 (by decide +kernel) (by decide +kernel)
theorem kc_J6_266 : Cond.constant RJ6 266 (858993459) ∈ g_ws := g_mem 841 (by decide +kernel) (by decide +kernel)
theorem kc_J6_267 : Cond.constant RJ6 267 (252645135) ∈ g_ws := g_mem 842 (by decide +kernel) (by decide +kernel)
theorem kc_X0_103 : Cond.constant RX0 103 (99999) ∈ g_ws := g_mem 939 (by decide +kernel) (by decide +kernel)
theorem kc_X0_149 : Cond.constantLong RX0 149 (1103515245) ∈ g_ws := g_mem 965 (by decide +kernel) (by decide +kernel)
theorem kc_X0_151 : Cond.constantLong RX0 151 (12345) ∈ g_ws := g_mem 966 (by decide +kernel) (by decide +kernel)
theorem kc_X0_153 : Cond.constantLong RX0 153 (2147483647) ∈ g_ws := g_mem 967 (by decide +kernel) (by decide +kernel)
theorem kc_X0_155 : Cond.constant RX0 155 (65536) ∈ g_ws := g_mem 968 (by decide +kernel) (by decide +kernel)
theorem kc_X0_176 : Cond.constantLong RX0 176 (-9223372036854775808) ∈ g_ws := g_mem 820 (by decide +kernel) (by decide +kernel)
theorem kc_X0_198 : Cond.constantLong RX0 198 (999) ∈ g_ws := g_mem 932 (by decide +kernel) (by decide +kernel)
theorem kc_X10_213 : Cond.constantLong RX10 213 (-9223372036854775808) ∈ g_ws := g_mem 872 (by decide +kernel) (by decide +kernel)
theorem kc_X10_235 : Cond.constant RX10 235 (99999) ∈ g_ws := g_mem 907 (by decide +kernel) (by decide +kernel)
theorem kc_X10_275 : Cond.constant RX10 275 (-2147483648) ∈ g_ws := g_mem 1029 (by decide +kernel) (by decide +kernel)
theorem kc_X10_322 : Cond.constantLong RX10 322 (-1) ∈ g_ws := g_mem 1096 (by decide +kernel) (by decide +kernel)
theorem kc_X11_195 : Cond.constant RX11 195 (99999) ∈ g_ws := g_mem 1563 (by decide +kernel) (by decide +kernel)
theorem kc_X11_336 : Cond.constantLong RX11 336 (1000000000000) ∈ g_ws := g_mem 1763 (by decide +kernel) (by decide +kernel)
theorem kc_X11_338 : Cond.constantLong RX11 338 (-1000000000000) ∈ g_ws := g_mem 1764 (by decide +kernel) (by decide +kernel)
theorem kc_X11_396 : Cond.constant RX11 396 (1103515245) ∈ g_ws := g_mem 1828 (by decide +kernel) (by decide +kernel)
theorem kc_X11_399 : Cond.constant RX11 399 (2147483647) ∈ g_ws := g_mem 1829 (by decide +kernel) (by decide +kernel)
theorem kc_X11_449 : Cond.constantLong RX11 449 (-9223372036854775808) ∈ g_ws := g_mem 1737 (by decide +kernel) (by decide +kernel)
theorem kc_X11_490 : Cond.constant RX11 490 (-2147483648) ∈ g_ws := g_mem 1878 (by decide +kernel) (by decide +kernel)
theorem kc_X11_507 : Cond.constantLong RX11 507 (-1) ∈ g_ws := g_mem 1935 (by decide +kernel) (by decide +kernel)
theorem kc_X11_509 : Cond.constantLong RX11 509 (100) ∈ g_ws := g_mem 1936 (by decide +kernel) (by decide +kernel)
theorem kc_X2_35 : Cond.constantLong RX2 35 (-9223372036854775808) ∈ g_ws := g_mem 854 (by decide +kernel) (by decide +kernel)
theorem kc_X2_37 : Cond.constantLong RX2 37 (1000000000000) ∈ g_ws := g_mem 853 (by decide +kernel) (by decide +kernel)
theorem kc_X2_39 : Cond.constantLong RX2 39 (-1000000000000) ∈ g_ws := g_mem 858 (by decide +kernel) (by decide +kernel)
theorem kc_X5_164 : Cond.constant RX5 164 (99999) ∈ g_ws := g_mem 627 (by decide +kernel) (by decide +kernel)
theorem kc_X8_68 : Cond.constant RX8 68 (1000000) ∈ g_ws := g_mem 559 (by decide +kernel) (by decide +kernel)
theorem cs_X0_96 : g_CS RX0 96 yX0_within cX0_within 3 (some .int) 2 := ⟨⟨g_mem 929 (by decide +kernel) (by decide +kernel), g_mem 12 (by decide +kernel) (by decide +kernel), g_mem 931 (by decide +kernel) (by decide +kernel), by decide +kernel, by decide⟩, g_mem 930 (by decide +kernel) (by decide +kernel)⟩
theorem cs_X10_236 : g_CS RX10 236 yX10_isSpan cX10_isSpan 1 (some .boolean) 1 := ⟨⟨g_mem 912 (by decide +kernel) (by decide +kernel), g_mem 1 (by decide +kernel) (by decide +kernel), g_mem 914 (by decide +kernel) (by decide +kernel), by decide +kernel, by decide⟩, g_mem 913 (by decide +kernel) (by decide +kernel)⟩
theorem cs_X10_308 : g_CS RX10 308 yX10_isPort cX10_isPort 1 (some .boolean) 1 := ⟨⟨g_mem 796 (by decide +kernel) (by decide +kernel), g_mem 1 (by decide +kernel) (by decide +kernel), g_mem 798 (by decide +kernel) (by decide +kernel), by decide +kernel, by decide⟩, g_mem 797 (by decide +kernel) (by decide +kernel)⟩
theorem cs_X10_327 : g_CS RX10 327 yX10_commonFactor cX10_commonFactor 4 (some .int) 2 := ⟨⟨g_mem 1097 (by decide +kernel) (by decide +kernel), g_mem 1 (by decide +kernel) (by decide +kernel), g_mem 1099 (by decide +kernel) (by decide +kernel), by decide +kernel, by decide⟩, g_mem 1098 (by decide +kernel) (by decide +kernel)⟩
theorem cs_X11_179 : g_CS RX11 179 yX11_isSmall cX11_isSmall 1 (some .boolean) 1 := ⟨⟨g_mem 1546 (by decide +kernel) (by decide +kernel), g_mem 16 (by decide +kernel) (by decide +kernel), g_mem 1548 (by decide +kernel) (by decide +kernel), by decide +kernel, by decide⟩, g_mem 1547 (by decide +kernel) (by decide +kernel)⟩
theorem cs_X11_192 : g_CS RX11 192 yX11_isDigit cX11_isDigit 1 (some .boolean) 1 := ⟨⟨g_mem 1560 (by decide +kernel) (by decide +kernel), g_mem 16 (by decide +kernel) (by decide +kernel), g_mem 1562 (by decide +kernel) (by decide +kernel), by decide +kernel, by decide⟩, g_mem 1561 (by decide +kernel) (by decide +kernel)⟩
theorem cs_X11_223 : g_CS RX11 223 yX11_found cX11_found 5 (some .int) 4 := ⟨⟨g_mem 1588 (by decide +kernel) (by decide +kernel), g_mem 16 (by decide +kernel) (by decide +kernel), g_mem 1590 (by decide +kernel) (by decide +kernel), by decide +kernel, by decide⟩, g_mem 1589 (by decide +kernel) (by decide +kernel)⟩
theorem cs_X11_309 : g_CS RX11 309 yX11_half cX11_half 3 none 1 := ⟨⟨g_mem 1655 (by decide +kernel) (by decide +kernel), g_mem 16 (by decide +kernel) (by decide +kernel), g_mem 1657 (by decide +kernel) (by decide +kernel), by decide +kernel, by decide⟩, g_mem 1656 (by decide +kernel) (by decide +kernel)⟩
theorem cs_X11_326 : g_CS RX11 326 yX11_is cX11_is 1 (some .long) 1 := ⟨⟨g_mem 1757 (by decide +kernel) (by decide +kernel), g_mem 16 (by decide +kernel) (by decide +kernel), g_mem 1759 (by decide +kernel) (by decide +kernel), by decide +kernel, by decide⟩, g_mem 1758 (by decide +kernel) (by decide +kernel)⟩
theorem cs_X11_349 : g_CS RX11 349 yX11_bitsOf cX11_bitsOf 3 (some .int) 1 := ⟨⟨g_mem 1746 (by decide +kernel) (by decide +kernel), g_mem 16 (by decide +kernel) (by decide +kernel), g_mem 1748 (by decide +kernel) (by decide +kernel), by decide +kernel, by decide⟩, g_mem 1747 (by decide +kernel) (by decide +kernel)⟩
theorem cs_X11_441 : g_CS RX11 441 yX11_isPort cX11_isPort 1 (some .boolean) 1 := ⟨⟨g_mem 1722 (by decide +kernel) (by decide +kernel), g_mem 16 (by decide +kernel) (by decide +kernel), g_mem 1724 (by decide +kernel) (by decide +kernel), by decide +kernel, by decide⟩, g_mem 1723 (by decide +kernel) (by decide +kernel)⟩
theorem cs_X11_511 : g_CS RX11 511 yX11_common cX11_common 10 (some .long) 2 := ⟨⟨g_mem 1937 (by decide +kernel) (by decide +kernel), g_mem 16 (by decide +kernel) (by decide +kernel), g_mem 1939 (by decide +kernel) (by decide +kernel), by decide +kernel, by decide⟩, g_mem 1938 (by decide +kernel) (by decide +kernel)⟩
theorem cs_X1_81 : g_CS RX1 81 yX1_rankOf cX1_rankOf 1 (some .int) 1 := ⟨⟨g_mem 664 (by decide +kernel) (by decide +kernel), g_mem 10 (by decide +kernel) (by decide +kernel), g_mem 666 (by decide +kernel) (by decide +kernel), by decide +kernel, by decide⟩, g_mem 665 (by decide +kernel) (by decide +kernel)⟩
theorem cs_X2_31 : g_CS RX2 31 yX2_worked cX2_worked 5 (some .long) 3 := ⟨⟨g_mem 847 (by decide +kernel) (by decide +kernel), g_mem 3 (by decide +kernel) (by decide +kernel), g_mem 849 (by decide +kernel) (by decide +kernel), by decide +kernel, by decide⟩, g_mem 848 (by decide +kernel) (by decide +kernel)⟩
theorem cs_X2_41 : g_CS RX2 41 yX2_product cX2_product 8 (some .long) 2 := ⟨⟨g_mem 850 (by decide +kernel) (by decide +kernel), g_mem 3 (by decide +kernel) (by decide +kernel), g_mem 852 (by decide +kernel) (by decide +kernel), by decide +kernel, by decide⟩, g_mem 851 (by decide +kernel) (by decide +kernel)⟩
theorem cs_X2_45 : g_CS RX2 45 yX2_isSo cX2_isSo 5 (some .boolean) 3 := ⟨⟨g_mem 855 (by decide +kernel) (by decide +kernel), g_mem 3 (by decide +kernel) (by decide +kernel), g_mem 857 (by decide +kernel) (by decide +kernel), by decide +kernel, by decide⟩, g_mem 856 (by decide +kernel) (by decide +kernel)⟩
theorem cs_X4_38 : g_CS RX4 38 yX4_digit cX4_digit 2 (some .int) 2 := ⟨⟨g_mem 1039 (by decide +kernel) (by decide +kernel), g_mem 13 (by decide +kernel) (by decide +kernel), g_mem 1041 (by decide +kernel) (by decide +kernel), by decide +kernel, by decide⟩, g_mem 1040 (by decide +kernel) (by decide +kernel)⟩
theorem cs_X7_79 : g_CS RX7 79 yJ6_bitCount_0f7a4 cJ6_bitCount_0f7a4 1 (some .int) 1 := ⟨⟨g_mem 837 (by decide +kernel) (by decide +kernel), g_mem 24 (by decide +kernel) (by decide +kernel), g_mem 839 (by decide +kernel) (by decide +kernel), by decide +kernel, by decide⟩, g_mem 838 (by decide +kernel) (by decide +kernel)⟩
theorem cs_X8_52 : g_CS RX8 52 yX8_isLetter cX8_isLetter 1 (some .boolean) 1 := ⟨⟨g_mem 545 (by decide +kernel) (by decide +kernel), g_mem 5 (by decide +kernel) (by decide +kernel), g_mem 547 (by decide +kernel) (by decide +kernel), by decide +kernel, by decide⟩, g_mem 546 (by decide +kernel) (by decide +kernel)⟩
theorem cs_X8_59 : g_CS RX8 59 yX8_isDigit cX8_isDigit 1 (some .boolean) 1 := ⟨⟨g_mem 552 (by decide +kernel) (by decide +kernel), g_mem 5 (by decide +kernel) (by decide +kernel), g_mem 554 (by decide +kernel) (by decide +kernel), by decide +kernel, by decide⟩, g_mem 553 (by decide +kernel) (by decide +kernel)⟩
theorem cs_X8_69 : g_CS RX8 69 yX8_signOf cX8_signOf 1 (some .int) 1 := ⟨⟨g_mem 564 (by decide +kernel) (by decide +kernel), g_mem 5 (by decide +kernel) (by decide +kernel), g_mem 566 (by decide +kernel) (by decide +kernel), by decide +kernel, by decide⟩, g_mem 565 (by decide +kernel) (by decide +kernel)⟩
theorem cv_X0_112 : g_CV RX0 112 7 yX7_sendingAt cX7_sendingAt 3 (some .int) 2 := ⟨⟨g_mem 945 (by decide +kernel) (by decide +kernel), g_mem 11 (by decide +kernel) (by decide +kernel), g_mem 759 (by decide +kernel) (by decide +kernel), by decide +kernel, by decide⟩, g_mem 757 (by decide +kernel) (by decide +kernel), g_mem 758 (by decide +kernel) (by decide +kernel), _, rfl, rfl⟩
theorem cv_X0_115 : g_CV RX0 115 7 yX7_isDue cX7_isDue 2 (some .boolean) 1 := ⟨⟨g_mem 946 (by decide +kernel) (by decide +kernel), g_mem 11 (by decide +kernel) (by decide +kernel), g_mem 949 (by decide +kernel) (by decide +kernel), by decide +kernel, by decide⟩, g_mem 947 (by decide +kernel) (by decide +kernel), g_mem 948 (by decide +kernel) (by decide +kernel), _, rfl, rfl⟩
theorem cv_X0_122 : g_CV RX0 122 0 yX0_boards cX0_boards 5 (some .boolean) 2 := ⟨⟨g_mem 951 (by decide +kernel) (by decide +kernel), g_mem 12 (by decide +kernel) (by decide +kernel), g_mem 954 (by decide +kernel) (by decide +kernel), by decide +kernel, by decide⟩, g_mem 953 (by decide +kernel) (by decide +kernel), g_memS 45 (by decide +kernel) (by decide +kernel), _, rfl, rfl⟩
theorem cv_X0_126 : g_CV RX0 126 7 yX7_setSending cX7_setSending 4 none 3 := ⟨⟨g_mem 956 (by decide +kernel) (by decide +kernel), g_mem 11 (by decide +kernel) (by decide +kernel), g_mem 884 (by decide +kernel) (by decide +kernel), by decide +kernel, by decide⟩, g_mem 882 (by decide +kernel) (by decide +kernel), g_mem 883 (by decide +kernel) (by decide +kernel), _, rfl, rfl⟩
theorem cv_X0_133 : g_CV RX0 133 0 yX0_fareLaw cX0_fareLaw 3 (some .long) 2 := ⟨⟨g_mem 955 (by decide +kernel) (by decide +kernel), g_mem 12 (by decide +kernel) (by decide +kernel), g_mem 818 (by decide +kernel) (by decide +kernel), by decide +kernel, by decide⟩, g_mem 816 (by decide +kernel) (by decide +kernel), g_mem 817 (by decide +kernel) (by decide +kernel), _, rfl, rfl⟩
theorem cv_X0_142 : g_CV RX0 142 0 yX0_nextNumber cX0_nextNumber 1 (some .int) 0 := ⟨⟨g_mem 961 (by decide +kernel) (by decide +kernel), g_mem 12 (by decide +kernel) (by decide +kernel), g_mem 964 (by decide +kernel) (by decide +kernel), by decide +kernel, by decide⟩, g_mem 963 (by decide +kernel) (by decide +kernel), g_memS 47 (by decide +kernel) (by decide +kernel), _, rfl, rfl⟩
theorem cv_X0_159 : g_CV RX0 159 0 yX0_mixLaw cX0_mixLaw 2 (some .long) 1 := ⟨⟨g_mem 973 (by decide +kernel) (by decide +kernel), g_mem 12 (by decide +kernel) (by decide +kernel), g_mem 867 (by decide +kernel) (by decide +kernel), by decide +kernel, by decide⟩, g_mem 865 (by decide +kernel) (by decide +kernel), g_mem 866 (by decide +kernel) (by decide +kernel), _, rfl, rfl⟩
theorem cv_X0_163 : g_CV RX0 163 0 yX0_mixTwo cX0_mixTwo 4 none 1 := ⟨⟨g_mem 974 (by decide +kernel) (by decide +kernel), g_mem 12 (by decide +kernel) (by decide +kernel), g_mem 977 (by decide +kernel) (by decide +kernel), by decide +kernel, by decide⟩, g_mem 976 (by decide +kernel) (by decide +kernel), g_memS 49 (by decide +kernel) (by decide +kernel), _, rfl, rfl⟩
theorem cv_X0_166 : g_CV RX0 166 7 yX7_exchange cX7_exchange 5 none 3 := ⟨⟨g_mem 978 (by decide +kernel) (by decide +kernel), g_mem 11 (by decide +kernel) (by decide +kernel), g_mem 902 (by decide +kernel) (by decide +kernel), by decide +kernel, by decide⟩, g_mem 900 (by decide +kernel) (by decide +kernel), g_mem 901 (by decide +kernel) (by decide +kernel), _, rfl, rfl⟩
theorem cv_X0_173 : g_CV RX0 173 2 yX2_isTold cX2_isTold 2 (some .boolean) 1 := ⟨⟨g_mem 819 (by decide +kernel) (by decide +kernel), g_mem 3 (by decide +kernel) (by decide +kernel), g_mem 635 (by decide +kernel) (by decide +kernel), by decide +kernel, by decide⟩, g_mem 633 (by decide +kernel) (by decide +kernel), g_mem 634 (by decide +kernel) (by decide +kernel), _, rfl, rfl⟩
theorem cv_X0_178 : g_CV RX0 178 0 yX0_nameSort cX0_nameSort 2 none 1 := ⟨⟨g_mem 821 (by decide +kernel) (by decide +kernel), g_mem 12 (by decide +kernel) (by decide +kernel), g_mem 824 (by decide +kernel) (by decide +kernel), by decide +kernel, by decide⟩, g_mem 823 (by decide +kernel) (by decide +kernel), g_memS 38 (by decide +kernel) (by decide +kernel), _, rfl, rfl⟩
theorem cv_X0_181 : g_CV RX0 181 0 yX0_nameMan cX0_nameMan 2 none 1 := ⟨⟨g_mem 825 (by decide +kernel) (by decide +kernel), g_mem 12 (by decide +kernel) (by decide +kernel), g_mem 828 (by decide +kernel) (by decide +kernel), by decide +kernel, by decide⟩, g_mem 827 (by decide +kernel) (by decide +kernel), g_memS 39 (by decide +kernel) (by decide +kernel), _, rfl, rfl⟩
theorem cv_X0_184 : g_CV RX0 184 2 yX2_value cX2_value 8 (some .long) 2 := ⟨⟨g_mem 843 (by decide +kernel) (by decide +kernel), g_mem 3 (by decide +kernel) (by decide +kernel), g_mem 846 (by decide +kernel) (by decide +kernel), by decide +kernel, by decide⟩, g_mem 844 (by decide +kernel) (by decide +kernel), g_mem 845 (by decide +kernel) (by decide +kernel), _, rfl, rfl⟩
theorem cv_X0_188 : g_CV RX0 188 0 yX0_nameBoat cX0_nameBoat 1 none 0 := ⟨⟨g_mem 829 (by decide +kernel) (by decide +kernel), g_mem 12 (by decide +kernel) (by decide +kernel), g_mem 832 (by decide +kernel) (by decide +kernel), by decide +kernel, by decide⟩, g_mem 831 (by decide +kernel) (by decide +kernel), g_memS 40 (by decide +kernel) (by decide +kernel), _, rfl, rfl⟩
theorem cv_X0_191 : g_CV RX0 191 0 yX0_aboardOf cX0_aboardOf 4 (some .int) 1 := ⟨⟨g_mem 868 (by decide +kernel) (by decide +kernel), g_mem 12 (by decide +kernel) (by decide +kernel), g_mem 871 (by decide +kernel) (by decide +kernel), by decide +kernel, by decide⟩, g_mem 870 (by decide +kernel) (by decide +kernel), g_memS 41 (by decide +kernel) (by decide +kernel), _, rfl, rfl⟩
theorem cv_X0_195 : g_CV RX0 195 7 yX7_away cX7_away 2 (some .int) 1 := ⟨⟨g_mem 833 (by decide +kernel) (by decide +kernel), g_mem 11 (by decide +kernel) (by decide +kernel), g_mem 836 (by decide +kernel) (by decide +kernel), by decide +kernel, by decide⟩, g_mem 834 (by decide +kernel) (by decide +kernel), g_mem 835 (by decide +kernel) (by decide +kernel), _, rfl, rfl⟩
theorem cv_X0_52 : g_CV RX0 52 0 yX0_settleWants cX0_settleWants 2 none 0 := ⟨⟨g_mem 919 (by decide +kernel) (by decide +kernel), g_mem 12 (by decide +kernel) (by decide +kernel), g_mem 922 (by decide +kernel) (by decide +kernel), by decide +kernel, by decide⟩, g_mem 921 (by decide +kernel) (by decide +kernel), g_memS 42 (by decide +kernel) (by decide +kernel), _, rfl, rfl⟩
theorem cv_X0_55 : g_CV RX0 55 0 yX0_fillBoat cX0_fillBoat 5 none 0 := ⟨⟨g_mem 941 (by decide +kernel) (by decide +kernel), g_mem 12 (by decide +kernel) (by decide +kernel), g_mem 944 (by decide +kernel) (by decide +kernel), by decide +kernel, by decide⟩, g_mem 943 (by decide +kernel) (by decide +kernel), g_memS 44 (by decide +kernel) (by decide +kernel), _, rfl, rfl⟩
theorem cv_X0_58 : g_CV RX0 58 0 yX0_storms cX0_storms 1 (some .boolean) 0 := ⟨⟨g_mem 957 (by decide +kernel) (by decide +kernel), g_mem 12 (by decide +kernel) (by decide +kernel), g_mem 960 (by decide +kernel) (by decide +kernel), by decide +kernel, by decide⟩, g_mem 959 (by decide +kernel) (by decide +kernel), g_memS 46 (by decide +kernel) (by decide +kernel), _, rfl, rfl⟩
theorem cv_X0_64 : g_CV RX0 64 0 yX0_mixAll cX0_mixAll 2 none 0 := ⟨⟨g_mem 969 (by decide +kernel) (by decide +kernel), g_mem 12 (by decide +kernel) (by decide +kernel), g_mem 972 (by decide +kernel) (by decide +kernel), by decide +kernel, by decide⟩, g_mem 971 (by decide +kernel) (by decide +kernel), g_memS 48 (by decide +kernel) (by decide +kernel), _, rfl, rfl⟩
theorem cv_X0_67 : g_CV RX0 67 0 yX0_land cX0_land 2 none 0 := ⟨⟨g_mem 979 (by decide +kernel) (by decide +kernel), g_mem 12 (by decide +kernel) (by decide +kernel), g_mem 982 (by decide +kernel) (by decide +kernel), by decide +kernel, by decide⟩, g_mem 981 (by decide +kernel) (by decide +kernel), g_memS 50 (by decide +kernel) (by decide +kernel), _, rfl, rfl⟩
theorem cv_X0_76 : g_CV RX0 76 9 yX9_wantAt cX9_wantAt 3 (some .int) 2 := ⟨⟨g_mem 863 (by decide +kernel) (by decide +kernel), g_mem 2 (by decide +kernel) (by decide +kernel), g_mem 771 (by decide +kernel) (by decide +kernel), by decide +kernel, by decide⟩, g_mem 769 (by decide +kernel) (by decide +kernel), g_mem 770 (by decide +kernel) (by decide +kernel), _, rfl, rfl⟩
theorem cv_X0_80 : g_CV RX0 80 0 yX0_settle cX0_settle 4 none 1 := ⟨⟨g_mem 923 (by decide +kernel) (by decide +kernel), g_mem 12 (by decide +kernel) (by decide +kernel), g_mem 926 (by decide +kernel) (by decide +kernel), by decide +kernel, by decide⟩, g_mem 925 (by decide +kernel) (by decide +kernel), g_memS 43 (by decide +kernel) (by decide +kernel), _, rfl, rfl⟩
theorem cv_X0_84 : g_CV RX0 84 7 yX7_lacks cX7_lacks 4 (some .int) 3 := ⟨⟨g_mem 927 (by decide +kernel) (by decide +kernel), g_mem 11 (by decide +kernel) (by decide +kernel), g_mem 802 (by decide +kernel) (by decide +kernel), by decide +kernel, by decide⟩, g_mem 800 (by decide +kernel) (by decide +kernel), g_mem 801 (by decide +kernel) (by decide +kernel), _, rfl, rfl⟩
theorem cv_X0_92 : g_CV RX0 92 0 yX0_gainLaw cX0_gainLaw 3 (some .long) 2 := ⟨⟨g_mem 928 (by decide +kernel) (by decide +kernel), g_mem 12 (by decide +kernel) (by decide +kernel), g_mem 862 (by decide +kernel) (by decide +kernel), by decide +kernel, by decide⟩, g_mem 860 (by decide +kernel) (by decide +kernel), g_mem 861 (by decide +kernel) (by decide +kernel), _, rfl, rfl⟩
theorem cv_X10_105 : g_CV RX10 105 7 yX7_begin cX7_begin 3 none 1 := ⟨⟨g_mem 704 (by decide +kernel) (by decide +kernel), g_mem 11 (by decide +kernel) (by decide +kernel), g_mem 707 (by decide +kernel) (by decide +kernel), by decide +kernel, by decide⟩, g_mem 705 (by decide +kernel) (by decide +kernel), g_mem 706 (by decide +kernel) (by decide +kernel), _, rfl, rfl⟩
theorem cv_X10_108 : g_CV RX10 108 6 yX6_clear cX6_clear 1 none 0 := ⟨⟨g_mem 715 (by decide +kernel) (by decide +kernel), g_mem 14 (by decide +kernel) (by decide +kernel), g_mem 718 (by decide +kernel) (by decide +kernel), by decide +kernel, by decide⟩, g_mem 716 (by decide +kernel) (by decide +kernel), g_mem 717 (by decide +kernel) (by decide +kernel), _, rfl, rfl⟩
theorem cv_X10_111 : g_CV RX10 111 3 yX3_clear cX3_clear 1 none 0 := ⟨⟨g_mem 719 (by decide +kernel) (by decide +kernel), g_mem 15 (by decide +kernel) (by decide +kernel), g_mem 722 (by decide +kernel) (by decide +kernel), by decide +kernel, by decide⟩, g_mem 720 (by decide +kernel) (by decide +kernel), g_mem 721 (by decide +kernel) (by decide +kernel), _, rfl, rfl⟩
theorem cv_X10_115 : g_CV RX10 115 9 yX9_find cX9_find 4 (some .int) 2 := ⟨⟨g_mem 731 (by decide +kernel) (by decide +kernel), g_mem 2 (by decide +kernel) (by decide +kernel), g_mem 590 (by decide +kernel) (by decide +kernel), by decide +kernel, by decide⟩, g_mem 588 (by decide +kernel) (by decide +kernel), g_mem 589 (by decide +kernel) (by decide +kernel), _, rfl, rfl⟩
theorem cv_X10_119 : g_CV RX10 119 10 yX10_isMan cX10_isMan 2 (some .boolean) 1 := ⟨⟨g_mem 780 (by decide +kernel) (by decide +kernel), g_mem 1 (by decide +kernel) (by decide +kernel), g_mem 783 (by decide +kernel) (by decide +kernel), by decide +kernel, by decide⟩, g_mem 782 (by decide +kernel) (by decide +kernel), g_memS 36 (by decide +kernel) (by decide +kernel), _, rfl, rfl⟩
theorem cv_X10_148 : g_CV RX10 148 10 yX10_isSort cX10_isSort 2 (some .boolean) 1 := ⟨⟨g_mem 736 (by decide +kernel) (by decide +kernel), g_mem 1 (by decide +kernel) (by decide +kernel), g_mem 739 (by decide +kernel) (by decide +kernel), by decide +kernel, by decide⟩, g_mem 738 (by decide +kernel) (by decide +kernel), g_memS 31 (by decide +kernel) (by decide +kernel), _, rfl, rfl⟩
theorem cv_X10_157 : g_CV RX10 157 10 yX10_isDeed cX10_isDeed 2 (some .boolean) 1 := ⟨⟨g_mem 744 (by decide +kernel) (by decide +kernel), g_mem 1 (by decide +kernel) (by decide +kernel), g_mem 747 (by decide +kernel) (by decide +kernel), by decide +kernel, by decide⟩, g_mem 746 (by decide +kernel) (by decide +kernel), g_memS 32 (by decide +kernel) (by decide +kernel), _, rfl, rfl⟩
theorem cv_X10_163 : g_CV RX10 163 10 yX10_isSending cX10_isSending 2 (some .boolean) 1 := ⟨⟨g_mem 752 (by decide +kernel) (by decide +kernel), g_mem 1 (by decide +kernel) (by decide +kernel), g_mem 755 (by decide +kernel) (by decide +kernel), by decide +kernel, by decide⟩, g_mem 754 (by decide +kernel) (by decide +kernel), g_memS 33 (by decide +kernel) (by decide +kernel), _, rfl, rfl⟩
theorem cv_X10_166 : g_CV RX10 166 7 yX7_sendingAt cX7_sendingAt 3 (some .int) 2 := ⟨⟨g_mem 756 (by decide +kernel) (by decide +kernel), g_mem 11 (by decide +kernel) (by decide +kernel), g_mem 759 (by decide +kernel) (by decide +kernel), by decide +kernel, by decide⟩, g_mem 757 (by decide +kernel) (by decide +kernel), g_mem 758 (by decide +kernel) (by decide +kernel), _, rfl, rfl⟩
theorem cv_X10_169 : g_CV RX10 169 10 yX10_isWant cX10_isWant 2 (some .boolean) 1 := ⟨⟨g_mem 764 (by decide +kernel) (by decide +kernel), g_mem 1 (by decide +kernel) (by decide +kernel), g_mem 767 (by decide +kernel) (by decide +kernel), by decide +kernel, by decide⟩, g_mem 766 (by decide +kernel) (by decide +kernel), g_memS 34 (by decide +kernel) (by decide +kernel), _, rfl, rfl⟩
theorem cv_X10_175 : g_CV RX10 175 9 yX9_wantAt cX9_wantAt 3 (some .int) 2 := ⟨⟨g_mem 768 (by decide +kernel) (by decide +kernel), g_mem 2 (by decide +kernel) (by decide +kernel), g_mem 771 (by decide +kernel) (by decide +kernel), by decide +kernel, by decide⟩, g_mem 769 (by decide +kernel) (by decide +kernel), g_mem 770 (by decide +kernel) (by decide +kernel), _, rfl, rfl⟩
theorem cv_X10_178 : g_CV RX10 178 10 yX10_isPart cX10_isPart 3 (some .boolean) 2 := ⟨⟨g_mem 776 (by decide +kernel) (by decide +kernel), g_mem 1 (by decide +kernel) (by decide +kernel), g_mem 779 (by decide +kernel) (by decide +kernel), by decide +kernel, by decide⟩, g_mem 778 (by decide +kernel) (by decide +kernel), g_memS 35 (by decide +kernel) (by decide +kernel), _, rfl, rfl⟩
theorem cv_X10_188 : g_CV RX10 188 10 yX10_isTask cX10_isTask 4 (some .boolean) 3 := ⟨⟨g_mem 792 (by decide +kernel) (by decide +kernel), g_mem 1 (by decide +kernel) (by decide +kernel), g_mem 795 (by decide +kernel) (by decide +kernel), by decide +kernel, by decide⟩, g_mem 794 (by decide +kernel) (by decide +kernel), g_memS 37 (by decide +kernel) (by decide +kernel), _, rfl, rfl⟩
theorem cv_X10_192 : g_CV RX10 192 7 yX7_lacks cX7_lacks 4 (some .int) 3 := ⟨⟨g_mem 799 (by decide +kernel) (by decide +kernel), g_mem 11 (by decide +kernel) (by decide +kernel), g_mem 802 (by decide +kernel) (by decide +kernel), by decide +kernel, by decide⟩, g_mem 800 (by decide +kernel) (by decide +kernel), g_mem 801 (by decide +kernel) (by decide +kernel), _, rfl, rfl⟩
theorem cv_X10_196 : g_CV RX10 196 0 yX0_start cX0_start 3 none 2 := ⟨⟨g_mem 811 (by decide +kernel) (by decide +kernel), g_mem 12 (by decide +kernel) (by decide +kernel), g_mem 814 (by decide +kernel) (by decide +kernel), by decide +kernel, by decide⟩, g_mem 812 (by decide +kernel) (by decide +kernel), g_mem 813 (by decide +kernel) (by decide +kernel), _, rfl, rfl⟩
theorem cv_X10_200 : g_CV RX10 200 0 yX0_fareLaw cX0_fareLaw 3 (some .long) 2 := ⟨⟨g_mem 815 (by decide +kernel) (by decide +kernel), g_mem 12 (by decide +kernel) (by decide +kernel), g_mem 818 (by decide +kernel) (by decide +kernel), by decide +kernel, by decide⟩, g_mem 816 (by decide +kernel) (by decide +kernel), g_mem 817 (by decide +kernel) (by decide +kernel), _, rfl, rfl⟩
theorem cv_X10_204 : g_CV RX10 204 0 yX0_gainLaw cX0_gainLaw 3 (some .long) 2 := ⟨⟨g_mem 859 (by decide +kernel) (by decide +kernel), g_mem 12 (by decide +kernel) (by decide +kernel), g_mem 862 (by decide +kernel) (by decide +kernel), by decide +kernel, by decide⟩, g_mem 860 (by decide +kernel) (by decide +kernel), g_mem 861 (by decide +kernel) (by decide +kernel), _, rfl, rfl⟩
theorem cv_X10_207 : g_CV RX10 207 0 yX0_mixLaw cX0_mixLaw 2 (some .long) 1 := ⟨⟨g_mem 864 (by decide +kernel) (by decide +kernel), g_mem 12 (by decide +kernel) (by decide +kernel), g_mem 867 (by decide +kernel) (by decide +kernel), by decide +kernel, by decide⟩, g_mem 865 (by decide +kernel) (by decide +kernel), g_mem 866 (by decide +kernel) (by decide +kernel), _, rfl, rfl⟩
theorem cv_X10_221 : g_CV RX10 221 7 yX7_putSending cX7_putSending 4 none 3 := ⟨⟨g_mem 877 (by decide +kernel) (by decide +kernel), g_mem 11 (by decide +kernel) (by decide +kernel), g_mem 880 (by decide +kernel) (by decide +kernel), by decide +kernel, by decide⟩, g_mem 878 (by decide +kernel) (by decide +kernel), g_mem 879 (by decide +kernel) (by decide +kernel), _, rfl, rfl⟩
theorem cv_X10_225 : g_CV RX10 225 3 yX3_note cX3_note 5 none 4 := ⟨⟨g_mem 885 (by decide +kernel) (by decide +kernel), g_mem 15 (by decide +kernel) (by decide +kernel), g_mem 888 (by decide +kernel) (by decide +kernel), by decide +kernel, by decide⟩, g_mem 886 (by decide +kernel) (by decide +kernel), g_mem 887 (by decide +kernel) (by decide +kernel), _, rfl, rfl⟩
theorem cv_X10_229 : g_CV RX10 229 7 yX7_setSending cX7_setSending 4 none 3 := ⟨⟨g_mem 894 (by decide +kernel) (by decide +kernel), g_mem 11 (by decide +kernel) (by decide +kernel), g_mem 884 (by decide +kernel) (by decide +kernel), by decide +kernel, by decide⟩, g_mem 882 (by decide +kernel) (by decide +kernel), g_mem 883 (by decide +kernel) (by decide +kernel), _, rfl, rfl⟩
theorem cv_X10_232 : g_CV RX10 232 7 yX7_exchange cX7_exchange 5 none 3 := ⟨⟨g_mem 899 (by decide +kernel) (by decide +kernel), g_mem 11 (by decide +kernel) (by decide +kernel), g_mem 902 (by decide +kernel) (by decide +kernel), by decide +kernel, by decide⟩, g_mem 900 (by decide +kernel) (by decide +kernel), g_mem 901 (by decide +kernel) (by decide +kernel), _, rfl, rfl⟩
theorem cv_X10_239 : g_CV RX10 239 0 yX0_pass cX0_pass 3 none 1 := ⟨⟨g_mem 915 (by decide +kernel) (by decide +kernel), g_mem 12 (by decide +kernel) (by decide +kernel), g_mem 918 (by decide +kernel) (by decide +kernel), by decide +kernel, by decide⟩, g_mem 916 (by decide +kernel) (by decide +kernel), g_mem 917 (by decide +kernel) (by decide +kernel), _, rfl, rfl⟩
theorem cv_X10_242 : g_CV RX10 242 7 yX7_copy cX7_copy 2 none 1 := ⟨⟨g_mem 987 (by decide +kernel) (by decide +kernel), g_mem 11 (by decide +kernel) (by decide +kernel), g_mem 990 (by decide +kernel) (by decide +kernel), by decide +kernel, by decide⟩, g_mem 988 (by decide +kernel) (by decide +kernel), g_mem 989 (by decide +kernel) (by decide +kernel), _, rfl, rfl⟩
theorem cv_X10_245 : g_CV RX10 245 7 yX7_wantsThatAre cX7_wantsThatAre 4 (some .int) 1 := ⟨⟨g_mem 991 (by decide +kernel) (by decide +kernel), g_mem 11 (by decide +kernel) (by decide +kernel), g_mem 994 (by decide +kernel) (by decide +kernel), by decide +kernel, by decide⟩, g_mem 992 (by decide +kernel) (by decide +kernel), g_mem 993 (by decide +kernel) (by decide +kernel), _, rfl, rfl⟩
theorem cv_X10_248 : g_CV RX10 248 7 yX7_sendingsGone cX7_sendingsGone 3 (some .int) 0 := ⟨⟨g_mem 995 (by decide +kernel) (by decide +kernel), g_mem 11 (by decide +kernel) (by decide +kernel), g_mem 998 (by decide +kernel) (by decide +kernel), by decide +kernel, by decide⟩, g_mem 996 (by decide +kernel) (by decide +kernel), g_mem 997 (by decide +kernel) (by decide +kernel), _, rfl, rfl⟩
theorem cv_X10_252 : g_CV RX10 252 7 yX7_mixed cX7_mixed 3 (some .int) 0 := ⟨⟨g_mem 999 (by decide +kernel) (by decide +kernel), g_mem 11 (by decide +kernel) (by decide +kernel), g_mem 1002 (by decide +kernel) (by decide +kernel), by decide +kernel, by decide⟩, g_mem 1000 (by decide +kernel) (by decide +kernel), g_mem 1001 (by decide +kernel) (by decide +kernel), _, rfl, rfl⟩
theorem cv_X10_255 : g_CV RX10 255 10 yX10_bestLoad cX10_bestLoad 9 (some .int) 1 := ⟨⟨g_mem 1015 (by decide +kernel) (by decide +kernel), g_mem 1 (by decide +kernel) (by decide +kernel), g_mem 1018 (by decide +kernel) (by decide +kernel), by decide +kernel, by decide⟩, g_mem 1017 (by decide +kernel) (by decide +kernel), g_memS 51 (by decide +kernel) (by decide +kernel), _, rfl, rfl⟩
theorem cv_X10_259 : g_CV RX10 259 7 yX7_isDue cX7_isDue 2 (some .boolean) 1 := ⟨⟨g_mem 1019 (by decide +kernel) (by decide +kernel), g_mem 11 (by decide +kernel) (by decide +kernel), g_mem 949 (by decide +kernel) (by decide +kernel), by decide +kernel, by decide⟩, g_mem 947 (by decide +kernel) (by decide +kernel), g_mem 948 (by decide +kernel) (by decide +kernel), _, rfl, rfl⟩
theorem cv_X10_262 : g_CV RX10 262 10 yX10_isDueBefore cX10_isDueBefore 3 (some .boolean) 1 := ⟨⟨g_mem 1020 (by decide +kernel) (by decide +kernel), g_mem 1 (by decide +kernel) (by decide +kernel), g_mem 1023 (by decide +kernel) (by decide +kernel), by decide +kernel, by decide⟩, g_mem 1022 (by decide +kernel) (by decide +kernel), g_memS 52 (by decide +kernel) (by decide +kernel), _, rfl, rfl⟩
theorem cv_X10_276 : g_CV RX10 276 4 yX4_choose cX4_choose 3 none 1 := ⟨⟨g_mem 1030 (by decide +kernel) (by decide +kernel), g_mem 13 (by decide +kernel) (by decide +kernel), g_mem 1033 (by decide +kernel) (by decide +kernel), by decide +kernel, by decide⟩, g_mem 1031 (by decide +kernel) (by decide +kernel), g_mem 1032 (by decide +kernel) (by decide +kernel), _, rfl, rfl⟩
theorem cv_X10_279 : g_CV RX10 279 4 yX4_isRow cX4_isRow 6 (some .boolean) 1 := ⟨⟨g_mem 1035 (by decide +kernel) (by decide +kernel), g_mem 13 (by decide +kernel) (by decide +kernel), g_mem 1038 (by decide +kernel) (by decide +kernel), by decide +kernel, by decide⟩, g_mem 1036 (by decide +kernel) (by decide +kernel), g_mem 1037 (by decide +kernel) (by decide +kernel), _, rfl, rfl⟩
theorem cv_X10_282 : g_CV RX10 282 4 yX4_layOut cX4_layOut 4 none 2 := ⟨⟨g_mem 1042 (by decide +kernel) (by decide +kernel), g_mem 13 (by decide +kernel) (by decide +kernel), g_mem 1045 (by decide +kernel) (by decide +kernel), by decide +kernel, by decide⟩, g_mem 1043 (by decide +kernel) (by decide +kernel), g_mem 1044 (by decide +kernel) (by decide +kernel), _, rfl, rfl⟩
theorem cv_X10_286 : g_CV RX10 286 7 yX7_allPence cX7_allPence 3 (some .int) 0 := ⟨⟨g_mem 1047 (by decide +kernel) (by decide +kernel), g_mem 11 (by decide +kernel) (by decide +kernel), g_mem 1050 (by decide +kernel) (by decide +kernel), by decide +kernel, by decide⟩, g_mem 1048 (by decide +kernel) (by decide +kernel), g_mem 1049 (by decide +kernel) (by decide +kernel), _, rfl, rfl⟩
theorem cv_X10_289 : g_CV RX10 289 4 yX4_weigh cX4_weigh 4 none 2 := ⟨⟨g_mem 1051 (by decide +kernel) (by decide +kernel), g_mem 13 (by decide +kernel) (by decide +kernel), g_mem 1054 (by decide +kernel) (by decide +kernel), by decide +kernel, by decide⟩, g_mem 1052 (by decide +kernel) (by decide +kernel), g_mem 1053 (by decide +kernel) (by decide +kernel), _, rfl, rfl⟩
theorem cv_X10_305 : g_CV RX10 305 7 yX7_rings cX7_rings 8 (some .int) 1 := ⟨⟨g_mem 1059 (by decide +kernel) (by decide +kernel), g_mem 11 (by decide +kernel) (by decide +kernel), g_mem 1062 (by decide +kernel) (by decide +kernel), by decide +kernel, by decide⟩, g_mem 1060 (by decide +kernel) (by decide +kernel), g_mem 1061 (by decide +kernel) (by decide +kernel), _, rfl, rfl⟩
theorem cv_X10_311 : g_CV RX10 311 10 yX10_isRest cX10_isRest 7 (some .boolean) 4 := ⟨⟨g_mem 1079 (by decide +kernel) (by decide +kernel), g_mem 1 (by decide +kernel) (by decide +kernel), g_mem 1082 (by decide +kernel) (by decide +kernel), by decide +kernel, by decide⟩, g_mem 1081 (by decide +kernel) (by decide +kernel), g_memS 53 (by decide +kernel) (by decide +kernel), _, rfl, rfl⟩
theorem cv_X10_315 : g_CV RX10 315 10 yX10_meetGain cX10_meetGain 6 (some .int) 4 := ⟨⟨g_mem 1083 (by decide +kernel) (by decide +kernel), g_mem 1 (by decide +kernel) (by decide +kernel), g_mem 1086 (by decide +kernel) (by decide +kernel), by decide +kernel, by decide⟩, g_mem 1085 (by decide +kernel) (by decide +kernel), g_memS 54 (by decide +kernel) (by decide +kernel), _, rfl, rfl⟩
theorem cv_X10_319 : g_CV RX10 319 7 yX7_away cX7_away 2 (some .int) 1 := ⟨⟨g_mem 1087 (by decide +kernel) (by decide +kernel), g_mem 11 (by decide +kernel) (by decide +kernel), g_mem 836 (by decide +kernel) (by decide +kernel), by decide +kernel, by decide⟩, g_mem 834 (by decide +kernel) (by decide +kernel), g_mem 835 (by decide +kernel) (by decide +kernel), _, rfl, rfl⟩
theorem cv_X10_330 : g_CV RX10 330 7 yX7_holderOf cX7_holderOf 4 (some .int) 2 := ⟨⟨g_mem 1104 (by decide +kernel) (by decide +kernel), g_mem 11 (by decide +kernel) (by decide +kernel), g_mem 1107 (by decide +kernel) (by decide +kernel), by decide +kernel, by decide⟩, g_mem 1105 (by decide +kernel) (by decide +kernel), g_mem 1106 (by decide +kernel) (by decide +kernel), _, rfl, rfl⟩
theorem cv_X10_333 : g_CV RX10 333 7 yX7_lost cX7_lost 3 (some .int) 0 := ⟨⟨g_mem 1112 (by decide +kernel) (by decide +kernel), g_mem 11 (by decide +kernel) (by decide +kernel), g_mem 1115 (by decide +kernel) (by decide +kernel), by decide +kernel, by decide⟩, g_mem 1113 (by decide +kernel) (by decide +kernel), g_mem 1114 (by decide +kernel) (by decide +kernel), _, rfl, rfl⟩
theorem cv_X10_336 : g_CV RX10 336 7 yX7_halves cX7_halves 3 (some .int) 0 := ⟨⟨g_mem 1116 (by decide +kernel) (by decide +kernel), g_mem 11 (by decide +kernel) (by decide +kernel), g_mem 1119 (by decide +kernel) (by decide +kernel), by decide +kernel, by decide⟩, g_mem 1117 (by decide +kernel) (by decide +kernel), g_mem 1118 (by decide +kernel) (by decide +kernel), _, rfl, rfl⟩
theorem cv_X10_339 : g_CV RX10 339 7 yX7_dueSendings cX7_dueSendings 3 (some .int) 0 := ⟨⟨g_mem 1120 (by decide +kernel) (by decide +kernel), g_mem 11 (by decide +kernel) (by decide +kernel), g_mem 1123 (by decide +kernel) (by decide +kernel), by decide +kernel, by decide⟩, g_mem 1121 (by decide +kernel) (by decide +kernel), g_mem 1122 (by decide +kernel) (by decide +kernel), _, rfl, rfl⟩
theorem cv_X10_344 : g_CV RX10 344 6 yX6_put cX6_put 5 (some .int) 4 := ⟨⟨g_mem 1129 (by decide +kernel) (by decide +kernel), g_mem 14 (by decide +kernel) (by decide +kernel), g_mem 1132 (by decide +kernel) (by decide +kernel), by decide +kernel, by decide⟩, g_mem 1130 (by decide +kernel) (by decide +kernel), g_mem 1131 (by decide +kernel) (by decide +kernel), _, rfl, rfl⟩
theorem cv_X10_348 : g_CV RX10 348 6 yX6_putStrike cX6_putStrike 3 (some .int) 1 := ⟨⟨g_mem 1137 (by decide +kernel) (by decide +kernel), g_mem 14 (by decide +kernel) (by decide +kernel), g_mem 1140 (by decide +kernel) (by decide +kernel), by decide +kernel, by decide⟩, g_mem 1138 (by decide +kernel) (by decide +kernel), g_mem 1139 (by decide +kernel) (by decide +kernel), _, rfl, rfl⟩
theorem cv_X10_354 : g_CV RX10 354 6 yX6_weigh cX6_weigh 3 (some .int) 0 := ⟨⟨g_mem 1150 (by decide +kernel) (by decide +kernel), g_mem 14 (by decide +kernel) (by decide +kernel), g_mem 1153 (by decide +kernel) (by decide +kernel), by decide +kernel, by decide⟩, g_mem 1151 (by decide +kernel) (by decide +kernel), g_mem 1152 (by decide +kernel) (by decide +kernel), _, rfl, rfl⟩
theorem cv_X10_357 : g_CV RX10 357 6 yX6_agrees cX6_agrees 5 (some .boolean) 2 := ⟨⟨g_mem 1159 (by decide +kernel) (by decide +kernel), g_mem 14 (by decide +kernel) (by decide +kernel), g_mem 1162 (by decide +kernel) (by decide +kernel), by decide +kernel, by decide⟩, g_mem 1160 (by decide +kernel) (by decide +kernel), g_mem 1161 (by decide +kernel) (by decide +kernel), _, rfl, rfl⟩
theorem cv_X10_370 : g_CV RX10 370 7 yX7_giveOwn cX7_giveOwn 2 none 0 := ⟨⟨g_mem 1171 (by decide +kernel) (by decide +kernel), g_mem 11 (by decide +kernel) (by decide +kernel), g_mem 714 (by decide +kernel) (by decide +kernel), by decide +kernel, by decide⟩, g_mem 712 (by decide +kernel) (by decide +kernel), g_mem 713 (by decide +kernel) (by decide +kernel), _, rfl, rfl⟩
theorem cv_X10_374 : g_CV RX10 374 3 yX3_at cX3_at 3 (some .int) 2 := ⟨⟨g_mem 1176 (by decide +kernel) (by decide +kernel), g_mem 15 (by decide +kernel) (by decide +kernel), g_mem 1179 (by decide +kernel) (by decide +kernel), by decide +kernel, by decide⟩, g_mem 1177 (by decide +kernel) (by decide +kernel), g_mem 1178 (by decide +kernel) (by decide +kernel), _, rfl, rfl⟩
theorem cv_X10_390 : g_CV RX10 390 6 yX6_limit cX6_limit 1 (some .int) 0 := ⟨⟨g_mem 1192 (by decide +kernel) (by decide +kernel), g_mem 14 (by decide +kernel) (by decide +kernel), g_mem 1157 (by decide +kernel) (by decide +kernel), by decide +kernel, by decide⟩, g_mem 1155 (by decide +kernel) (by decide +kernel), g_mem 1156 (by decide +kernel) (by decide +kernel), _, rfl, rfl⟩
theorem cv_X10_95 : g_CV RX10 95 10 yX10_putFour cX10_putFour 3 none 1 := ⟨⟨g_mem 514 (by decide +kernel) (by decide +kernel), g_mem 1 (by decide +kernel) (by decide +kernel), g_mem 517 (by decide +kernel) (by decide +kernel), by decide +kernel, by decide⟩, g_mem 516 (by decide +kernel) (by decide +kernel), g_memS 0 (by decide +kernel) (by decide +kernel), _, rfl, rfl⟩
theorem cv_X10_99 : g_CV RX10 99 5 yX5_reads cX5_reads 4 (some .boolean) 2 := ⟨⟨g_mem 522 (by decide +kernel) (by decide +kernel), g_mem 4 (by decide +kernel) (by decide +kernel), g_mem 525 (by decide +kernel) (by decide +kernel), by decide +kernel, by decide⟩, g_mem 523 (by decide +kernel) (by decide +kernel), g_mem 524 (by decide +kernel) (by decide +kernel), _, rfl, rfl⟩
theorem cv_X11_154 : g_CV RX11 154 11 yX11_begins cX11_begins 1 none 0 := ⟨⟨g_mem 1297 (by decide +kernel) (by decide +kernel), g_mem 16 (by decide +kernel) (by decide +kernel), g_mem 1300 (by decide +kernel) (by decide +kernel), by decide +kernel, by decide⟩, g_mem 1299 (by decide +kernel) (by decide +kernel), g_memS 56 (by decide +kernel) (by decide +kernel), _, rfl, rfl⟩
theorem cv_X11_169 : g_CV RX11 169 11 yX11_here cX11_here 1 (some .int) 0 := ⟨⟨g_mem 1542 (by decide +kernel) (by decide +kernel), g_mem 16 (by decide +kernel) (by decide +kernel), g_mem 1545 (by decide +kernel) (by decide +kernel), by decide +kernel, by decide⟩, g_mem 1544 (by decide +kernel) (by decide +kernel), g_memS 60 (by decide +kernel) (by decide +kernel), _, rfl, rfl⟩
theorem cv_X11_183 : g_CV RX11 183 11 yX11_word cX11_word 4 (some .int) 0 := ⟨⟨g_mem 1549 (by decide +kernel) (by decide +kernel), g_mem 16 (by decide +kernel) (by decide +kernel), g_mem 1552 (by decide +kernel) (by decide +kernel), by decide +kernel, by decide⟩, g_mem 1551 (by decide +kernel) (by decide +kernel), g_memS 61 (by decide +kernel) (by decide +kernel), _, rfl, rfl⟩
theorem cv_X11_189 : g_CV RX11 189 11 yX11_name cX11_name 2 none 0 := ⟨⟨g_mem 1556 (by decide +kernel) (by decide +kernel), g_mem 16 (by decide +kernel) (by decide +kernel), g_mem 1559 (by decide +kernel) (by decide +kernel), by decide +kernel, by decide⟩, g_mem 1558 (by decide +kernel) (by decide +kernel), g_memS 62 (by decide +kernel) (by decide +kernel), _, rfl, rfl⟩
theorem cv_X11_196 : g_CV RX11 196 11 yX11_sign cX11_sign 2 none 1 := ⟨⟨g_mem 1564 (by decide +kernel) (by decide +kernel), g_mem 16 (by decide +kernel) (by decide +kernel), g_mem 1567 (by decide +kernel) (by decide +kernel), by decide +kernel, by decide⟩, g_mem 1566 (by decide +kernel) (by decide +kernel), g_memS 63 (by decide +kernel) (by decide +kernel), _, rfl, rfl⟩
theorem cv_X11_217 : g_CV RX11 217 11 yX11_token cX11_token 2 none 0 := ⟨⟨g_mem 1538 (by decide +kernel) (by decide +kernel), g_mem 16 (by decide +kernel) (by decide +kernel), g_mem 1541 (by decide +kernel) (by decide +kernel), by decide +kernel, by decide⟩, g_mem 1540 (by decide +kernel) (by decide +kernel), g_memS 59 (by decide +kernel) (by decide +kernel), _, rfl, rfl⟩
theorem cv_X11_220 : g_CV RX11 220 11 yX11_wrong cX11_wrong 2 none 1 := ⟨⟨g_mem 1572 (by decide +kernel) (by decide +kernel), g_mem 16 (by decide +kernel) (by decide +kernel), g_mem 1575 (by decide +kernel) (by decide +kernel), by decide +kernel, by decide⟩, g_mem 1574 (by decide +kernel) (by decide +kernel), g_memS 65 (by decide +kernel) (by decide +kernel), _, rfl, rfl⟩
theorem cv_X11_227 : g_CV RX11 227 11 yX11_goOn cX11_goOn 1 none 0 := ⟨⟨g_mem 1603 (by decide +kernel) (by decide +kernel), g_mem 16 (by decide +kernel) (by decide +kernel), g_mem 1606 (by decide +kernel) (by decide +kernel), by decide +kernel, by decide⟩, g_mem 1605 (by decide +kernel) (by decide +kernel), g_memS 72 (by decide +kernel) (by decide +kernel), _, rfl, rfl⟩
theorem cv_X11_230 : g_CV RX11 230 11 yX11_fresher cX11_fresher 2 (some .int) 1 := ⟨⟨g_mem 1580 (by decide +kernel) (by decide +kernel), g_mem 16 (by decide +kernel) (by decide +kernel), g_mem 1583 (by decide +kernel) (by decide +kernel), by decide +kernel, by decide⟩, g_mem 1582 (by decide +kernel) (by decide +kernel), g_memS 67 (by decide +kernel) (by decide +kernel), _, rfl, rfl⟩
theorem cv_X11_234 : g_CV RX11 234 11 yX11_toldAhead cX11_toldAhead 5 (some .int) 3 := ⟨⟨g_mem 1599 (by decide +kernel) (by decide +kernel), g_mem 16 (by decide +kernel) (by decide +kernel), g_mem 1602 (by decide +kernel) (by decide +kernel), by decide +kernel, by decide⟩, g_mem 1601 (by decide +kernel) (by decide +kernel), g_memS 71 (by decide +kernel) (by decide +kernel), _, rfl, rfl⟩
theorem cv_X11_238 : g_CV RX11 238 11 yX11_isFull cX11_isFull 2 (some .boolean) 1 := ⟨⟨g_mem 1576 (by decide +kernel) (by decide +kernel), g_mem 16 (by decide +kernel) (by decide +kernel), g_mem 1579 (by decide +kernel) (by decide +kernel), by decide +kernel, by decide⟩, g_mem 1578 (by decide +kernel) (by decide +kernel), g_memS 66 (by decide +kernel) (by decide +kernel), _, rfl, rfl⟩
theorem cv_X11_244 : g_CV RX11 244 11 yX11_fresh cX11_fresh 5 (some .int) 3 := ⟨⟨g_mem 1584 (by decide +kernel) (by decide +kernel), g_mem 16 (by decide +kernel) (by decide +kernel), g_mem 1587 (by decide +kernel) (by decide +kernel), by decide +kernel, by decide⟩, g_mem 1586 (by decide +kernel) (by decide +kernel), g_memS 68 (by decide +kernel) (by decide +kernel), _, rfl, rfl⟩
theorem cv_X11_247 : g_CV RX11 247 11 yX11_numeral cX11_numeral 4 (some .int) 2 := ⟨⟨g_mem 1591 (by decide +kernel) (by decide +kernel), g_mem 16 (by decide +kernel) (by decide +kernel), g_mem 1594 (by decide +kernel) (by decide +kernel), by decide +kernel, by decide⟩, g_mem 1593 (by decide +kernel) (by decide +kernel), g_memS 69 (by decide +kernel) (by decide +kernel), _, rfl, rfl⟩
theorem cv_X11_251 : g_CV RX11 251 11 yX11_reads cX11_reads 3 none 2 := ⟨⟨g_mem 1534 (by decide +kernel) (by decide +kernel), g_mem 16 (by decide +kernel) (by decide +kernel), g_mem 1537 (by decide +kernel) (by decide +kernel), by decide +kernel, by decide⟩, g_mem 1536 (by decide +kernel) (by decide +kernel), g_memS 58 (by decide +kernel) (by decide +kernel), _, rfl, rfl⟩
theorem cv_X11_255 : g_CV RX11 255 11 yX11_manAhead cX11_manAhead 1 (some .int) 0 := ⟨⟨g_mem 1595 (by decide +kernel) (by decide +kernel), g_mem 16 (by decide +kernel) (by decide +kernel), g_mem 1598 (by decide +kernel) (by decide +kernel), by decide +kernel, by decide⟩, g_mem 1597 (by decide +kernel) (by decide +kernel), g_memS 70 (by decide +kernel) (by decide +kernel), _, rfl, rfl⟩
theorem cv_X11_258 : g_CV RX11 258 11 yX11_wantLine cX11_wantLine 2 none 1 := ⟨⟨g_mem 1607 (by decide +kernel) (by decide +kernel), g_mem 16 (by decide +kernel) (by decide +kernel), g_mem 1610 (by decide +kernel) (by decide +kernel), by decide +kernel, by decide⟩, g_mem 1609 (by decide +kernel) (by decide +kernel), g_memS 73 (by decide +kernel) (by decide +kernel), _, rfl, rfl⟩
theorem cv_X11_261 : g_CV RX11 261 11 yX11_lawLine cX11_lawLine 2 none 0 := ⟨⟨g_mem 1611 (by decide +kernel) (by decide +kernel), g_mem 16 (by decide +kernel) (by decide +kernel), g_mem 1614 (by decide +kernel) (by decide +kernel), by decide +kernel, by decide⟩, g_mem 1613 (by decide +kernel) (by decide +kernel), g_memS 74 (by decide +kernel) (by decide +kernel), _, rfl, rfl⟩
theorem cv_X11_264 : g_CV RX11 264 11 yX11_isSign cX11_isSign 2 (some .boolean) 1 := ⟨⟨g_mem 1651 (by decide +kernel) (by decide +kernel), g_mem 16 (by decide +kernel) (by decide +kernel), g_mem 1654 (by decide +kernel) (by decide +kernel), by decide +kernel, by decide⟩, g_mem 1653 (by decide +kernel) (by decide +kernel), g_memS 84 (by decide +kernel) (by decide +kernel), _, rfl, rfl⟩
theorem cv_X11_270 : g_CV RX11 270 11 yX11_expression cX11_expression 1 none 0 := ⟨⟨g_mem 1615 (by decide +kernel) (by decide +kernel), g_mem 16 (by decide +kernel) (by decide +kernel), g_mem 1618 (by decide +kernel) (by decide +kernel), by decide +kernel, by decide⟩, g_mem 1617 (by decide +kernel) (by decide +kernel), g_memS 75 (by decide +kernel) (by decide +kernel), _, rfl, rfl⟩
theorem cv_X11_276 : g_CV RX11 276 11 yX11_conjunction cX11_conjunction 1 none 0 := ⟨⟨g_mem 1619 (by decide +kernel) (by decide +kernel), g_mem 16 (by decide +kernel) (by decide +kernel), g_mem 1622 (by decide +kernel) (by decide +kernel), by decide +kernel, by decide⟩, g_mem 1621 (by decide +kernel) (by decide +kernel), g_memS 76 (by decide +kernel) (by decide +kernel), _, rfl, rfl⟩
theorem cv_X11_279 : g_CV RX11 279 11 yX11_isWord cX11_isWord 2 (some .boolean) 1 := ⟨⟨g_mem 1627 (by decide +kernel) (by decide +kernel), g_mem 16 (by decide +kernel) (by decide +kernel), g_mem 1630 (by decide +kernel) (by decide +kernel), by decide +kernel, by decide⟩, g_mem 1629 (by decide +kernel) (by decide +kernel), g_memS 78 (by decide +kernel) (by decide +kernel), _, rfl, rfl⟩
theorem cv_X11_282 : g_CV RX11 282 11 yX11_knot cX11_knot 1 none 0 := ⟨⟨g_mem 1631 (by decide +kernel) (by decide +kernel), g_mem 16 (by decide +kernel) (by decide +kernel), g_mem 1634 (by decide +kernel) (by decide +kernel), by decide +kernel, by decide⟩, g_mem 1633 (by decide +kernel) (by decide +kernel), g_memS 79 (by decide +kernel) (by decide +kernel), _, rfl, rfl⟩
theorem cv_X11_285 : g_CV RX11 285 11 yX11_puts cX11_puts 3 none 2 := ⟨⟨g_mem 1635 (by decide +kernel) (by decide +kernel), g_mem 16 (by decide +kernel) (by decide +kernel), g_mem 1638 (by decide +kernel) (by decide +kernel), by decide +kernel, by decide⟩, g_mem 1637 (by decide +kernel) (by decide +kernel), g_memS 80 (by decide +kernel) (by decide +kernel), _, rfl, rfl⟩
theorem cv_X11_288 : g_CV RX11 288 11 yX11_negation cX11_negation 2 none 0 := ⟨⟨g_mem 1623 (by decide +kernel) (by decide +kernel), g_mem 16 (by decide +kernel) (by decide +kernel), g_mem 1626 (by decide +kernel) (by decide +kernel), by decide +kernel, by decide⟩, g_mem 1625 (by decide +kernel) (by decide +kernel), g_memS 77 (by decide +kernel) (by decide +kernel), _, rfl, rfl⟩
theorem cv_X11_291 : g_CV RX11 291 11 yX11_sum cX11_sum 2 none 0 := ⟨⟨g_mem 1639 (by decide +kernel) (by decide +kernel), g_mem 16 (by decide +kernel) (by decide +kernel), g_mem 1642 (by decide +kernel) (by decide +kernel), by decide +kernel, by decide⟩, g_mem 1641 (by decide +kernel) (by decide +kernel), g_memS 81 (by decide +kernel) (by decide +kernel), _, rfl, rfl⟩
theorem cv_X11_294 : g_CV RX11 294 11 yX11_product cX11_product 2 none 0 := ⟨⟨g_mem 1643 (by decide +kernel) (by decide +kernel), g_mem 16 (by decide +kernel) (by decide +kernel), g_mem 1646 (by decide +kernel) (by decide +kernel), by decide +kernel, by decide⟩, g_mem 1645 (by decide +kernel) (by decide +kernel), g_memS 82 (by decide +kernel) (by decide +kernel), _, rfl, rfl⟩
theorem cv_X11_297 : g_CV RX11 297 11 yX11_primary cX11_primary 2 none 0 := ⟨⟨g_mem 1647 (by decide +kernel) (by decide +kernel), g_mem 16 (by decide +kernel) (by decide +kernel), g_mem 1650 (by decide +kernel) (by decide +kernel), by decide +kernel, by decide⟩, g_mem 1649 (by decide +kernel) (by decide +kernel), g_memS 83 (by decide +kernel) (by decide +kernel), _, rfl, rfl⟩
theorem cv_X11_303 : g_CV RX11 303 11 yX11_line cX11_line 6 none 0 := ⟨⟨g_mem 1568 (by decide +kernel) (by decide +kernel), g_mem 16 (by decide +kernel) (by decide +kernel), g_mem 1571 (by decide +kernel) (by decide +kernel), by decide +kernel, by decide⟩, g_mem 1570 (by decide +kernel) (by decide +kernel), g_memS 64 (by decide +kernel) (by decide +kernel), _, rfl, rfl⟩
theorem cv_X11_340 : g_CV RX11 340 11 yX11_works cX11_works 8 (some .boolean) 1 := ⟨⟨g_mem 1753 (by decide +kernel) (by decide +kernel), g_mem 16 (by decide +kernel) (by decide +kernel), g_mem 1756 (by decide +kernel) (by decide +kernel), by decide +kernel, by decide⟩, g_mem 1755 (by decide +kernel) (by decide +kernel), g_memS 96 (by decide +kernel) (by decide +kernel), _, rfl, rfl⟩
theorem cv_X11_343 : g_CV RX11 343 11 yX11_starts cX11_starts 4 none 1 := ⟨⟨g_mem 1301 (by decide +kernel) (by decide +kernel), g_mem 16 (by decide +kernel) (by decide +kernel), g_mem 1304 (by decide +kernel) (by decide +kernel), by decide +kernel, by decide⟩, g_mem 1303 (by decide +kernel) (by decide +kernel), g_memS 57 (by decide +kernel) (by decide +kernel), _, rfl, rfl⟩
theorem cv_X11_352 : g_CV RX11 352 11 yX11_hasLaw cX11_hasLaw 2 (some .boolean) 1 := ⟨⟨g_mem 1733 (by decide +kernel) (by decide +kernel), g_mem 16 (by decide +kernel) (by decide +kernel), g_mem 1736 (by decide +kernel) (by decide +kernel), by decide +kernel, by decide⟩, g_mem 1735 (by decide +kernel) (by decide +kernel), g_memS 92 (by decide +kernel) (by decide +kernel), _, rfl, rfl⟩
theorem cv_X11_355 : g_CV RX11 355 11 yX11_goes cX11_goes 3 (some .boolean) 1 := ⟨⟨g_mem 1749 (by decide +kernel) (by decide +kernel), g_mem 16 (by decide +kernel) (by decide +kernel), g_mem 1752 (by decide +kernel) (by decide +kernel), by decide +kernel, by decide⟩, g_mem 1751 (by decide +kernel) (by decide +kernel), g_memS 95 (by decide +kernel) (by decide +kernel), _, rfl, rfl⟩
theorem cv_X11_365 : g_CV RX11 365 11 yX11_canDo cX11_canDo 6 (some .boolean) 4 := ⟨⟨g_mem 1725 (by decide +kernel) (by decide +kernel), g_mem 16 (by decide +kernel) (by decide +kernel), g_mem 1728 (by decide +kernel) (by decide +kernel), by decide +kernel, by decide⟩, g_mem 1727 (by decide +kernel) (by decide +kernel), g_memS 91 (by decide +kernel) (by decide +kernel), _, rfl, rfl⟩
theorem cv_X11_369 : g_CV RX11 369 11 yX11_awayOf cX11_awayOf 5 (some .int) 2 := ⟨⟨g_mem 1738 (by decide +kernel) (by decide +kernel), g_mem 16 (by decide +kernel) (by decide +kernel), g_mem 1741 (by decide +kernel) (by decide +kernel), by decide +kernel, by decide⟩, g_mem 1740 (by decide +kernel) (by decide +kernel), g_memS 93 (by decide +kernel) (by decide +kernel), _, rfl, rfl⟩
theorem cv_X11_372 : g_CV RX11 372 11 yX11_calls cX11_calls 6 none 5 := ⟨⟨g_mem 1742 (by decide +kernel) (by decide +kernel), g_mem 16 (by decide +kernel) (by decide +kernel), g_mem 1745 (by decide +kernel) (by decide +kernel), by decide +kernel, by decide⟩, g_mem 1744 (by decide +kernel) (by decide +kernel), g_memS 94 (by decide +kernel) (by decide +kernel), _, rfl, rfl⟩
theorem cv_X11_376 : g_CV RX11 376 11 yX11_within cX11_within 4 (some .int) 3 := ⟨⟨g_mem 1801 (by decide +kernel) (by decide +kernel), g_mem 16 (by decide +kernel) (by decide +kernel), g_mem 1804 (by decide +kernel) (by decide +kernel), by decide +kernel, by decide⟩, g_mem 1803 (by decide +kernel) (by decide +kernel), g_memS 101 (by decide +kernel) (by decide +kernel), _, rfl, rfl⟩
theorem cv_X11_385 : g_CV RX11 385 11 yX11_isDue cX11_isDue 3 (some .boolean) 2 := ⟨⟨g_mem 1812 (by decide +kernel) (by decide +kernel), g_mem 16 (by decide +kernel) (by decide +kernel), g_mem 1815 (by decide +kernel) (by decide +kernel), by decide +kernel, by decide⟩, g_mem 1814 (by decide +kernel) (by decide +kernel), g_memS 103 (by decide +kernel) (by decide +kernel), _, rfl, rfl⟩
theorem cv_X11_389 : g_CV RX11 389 11 yX11_isAtBoat cX11_isAtBoat 4 (some .boolean) 3 := ⟨⟨g_mem 1816 (by decide +kernel) (by decide +kernel), g_mem 16 (by decide +kernel) (by decide +kernel), g_mem 1819 (by decide +kernel) (by decide +kernel), by decide +kernel, by decide⟩, g_mem 1818 (by decide +kernel) (by decide +kernel), g_memS 104 (by decide +kernel) (by decide +kernel), _, rfl, rfl⟩
theorem cv_X11_393 : g_CV RX11 393 11 yX11_fareOf cX11_fareOf 4 (some .int) 3 := ⟨⟨g_mem 1820 (by decide +kernel) (by decide +kernel), g_mem 16 (by decide +kernel) (by decide +kernel), g_mem 1823 (by decide +kernel) (by decide +kernel), by decide +kernel, by decide⟩, g_mem 1822 (by decide +kernel) (by decide +kernel), g_memS 105 (by decide +kernel) (by decide +kernel), _, rfl, rfl⟩
theorem cv_X11_400 : g_CV RX11 400 11 yX11_boardOf cX11_boardOf 4 (some .int) 1 := ⟨⟨g_mem 1834 (by decide +kernel) (by decide +kernel), g_mem 16 (by decide +kernel) (by decide +kernel), g_mem 1837 (by decide +kernel) (by decide +kernel), by decide +kernel, by decide⟩, g_mem 1836 (by decide +kernel) (by decide +kernel), g_memS 108 (by decide +kernel) (by decide +kernel), _, rfl, rfl⟩
theorem cv_X11_403 : g_CV RX11 403 11 yX11_wants cX11_wants 4 none 2 := ⟨⟨g_mem 1797 (by decide +kernel) (by decide +kernel), g_mem 16 (by decide +kernel) (by decide +kernel), g_mem 1800 (by decide +kernel) (by decide +kernel), by decide +kernel, by decide⟩, g_mem 1799 (by decide +kernel) (by decide +kernel), g_memS 100 (by decide +kernel) (by decide +kernel), _, rfl, rfl⟩
theorem cv_X11_406 : g_CV RX11 406 11 yX11_loads cX11_loads 7 none 1 := ⟨⟨g_mem 1808 (by decide +kernel) (by decide +kernel), g_mem 16 (by decide +kernel) (by decide +kernel), g_mem 1811 (by decide +kernel) (by decide +kernel), by decide +kernel, by decide⟩, g_mem 1810 (by decide +kernel) (by decide +kernel), g_memS 102 (by decide +kernel) (by decide +kernel), _, rfl, rfl⟩
theorem cv_X11_409 : g_CV RX11 409 11 yX11_doesStorm cX11_doesStorm 4 (some .boolean) 2 := ⟨⟨g_mem 1824 (by decide +kernel) (by decide +kernel), g_mem 16 (by decide +kernel) (by decide +kernel), g_mem 1827 (by decide +kernel) (by decide +kernel), by decide +kernel, by decide⟩, g_mem 1826 (by decide +kernel) (by decide +kernel), g_memS 106 (by decide +kernel) (by decide +kernel), _, rfl, rfl⟩
theorem cv_X11_413 : g_CV RX11 413 11 yX11_mixes cX11_mixes 8 none 2 := ⟨⟨g_mem 1830 (by decide +kernel) (by decide +kernel), g_mem 16 (by decide +kernel) (by decide +kernel), g_mem 1833 (by decide +kernel) (by decide +kernel), by decide +kernel, by decide⟩, g_mem 1832 (by decide +kernel) (by decide +kernel), g_memS 107 (by decide +kernel) (by decide +kernel), _, rfl, rfl⟩
theorem cv_X11_416 : g_CV RX11 416 11 yX11_passes cX11_passes 4 none 2 := ⟨⟨g_mem 1793 (by decide +kernel) (by decide +kernel), g_mem 16 (by decide +kernel) (by decide +kernel), g_mem 1796 (by decide +kernel) (by decide +kernel), by decide +kernel, by decide⟩, g_mem 1795 (by decide +kernel) (by decide +kernel), g_memS 99 (by decide +kernel) (by decide +kernel), _, rfl, rfl⟩
theorem cv_X11_420 : g_CV RX11 420 11 yX11_copies cX11_copies 6 none 2 := ⟨⟨g_mem 1773 (by decide +kernel) (by decide +kernel), g_mem 16 (by decide +kernel) (by decide +kernel), g_mem 1776 (by decide +kernel) (by decide +kernel), by decide +kernel, by decide⟩, g_mem 1775 (by decide +kernel) (by decide +kernel), g_memS 98 (by decide +kernel) (by decide +kernel), _, rfl, rfl⟩
theorem cv_X11_423 : g_CV RX11 423 11 yX11_goesOn cX11_goesOn 3 none 1 := ⟨⟨g_mem 1846 (by decide +kernel) (by decide +kernel), g_mem 16 (by decide +kernel) (by decide +kernel), g_mem 1849 (by decide +kernel) (by decide +kernel), by decide +kernel, by decide⟩, g_mem 1848 (by decide +kernel) (by decide +kernel), g_memS 110 (by decide +kernel) (by decide +kernel), _, rfl, rfl⟩
theorem cv_X11_426 : g_CV RX11 426 11 yX11_isMan cX11_isMan 2 (some .boolean) 1 := ⟨⟨g_mem 1670 (by decide +kernel) (by decide +kernel), g_mem 16 (by decide +kernel) (by decide +kernel), g_mem 1673 (by decide +kernel) (by decide +kernel), by decide +kernel, by decide⟩, g_mem 1672 (by decide +kernel) (by decide +kernel), g_memS 85 (by decide +kernel) (by decide +kernel), _, rfl, rfl⟩
theorem cv_X11_429 : g_CV RX11 429 11 yX11_wantsOf cX11_wantsOf 5 (some .int) 2 := ⟨⟨g_mem 1674 (by decide +kernel) (by decide +kernel), g_mem 16 (by decide +kernel) (by decide +kernel), g_mem 1677 (by decide +kernel) (by decide +kernel), by decide +kernel, by decide⟩, g_mem 1676 (by decide +kernel) (by decide +kernel), g_memS 86 (by decide +kernel) (by decide +kernel), _, rfl, rfl⟩
theorem cv_X11_432 : g_CV RX11 432 11 yX11_isSort cX11_isSort 2 (some .boolean) 1 := ⟨⟨g_mem 1682 (by decide +kernel) (by decide +kernel), g_mem 16 (by decide +kernel) (by decide +kernel), g_mem 1685 (by decide +kernel) (by decide +kernel), by decide +kernel, by decide⟩, g_mem 1684 (by decide +kernel) (by decide +kernel), g_memS 87 (by decide +kernel) (by decide +kernel), _, rfl, rfl⟩
theorem cv_X11_435 : g_CV RX11 435 11 yX11_isDeed cX11_isDeed 2 (some .boolean) 1 := ⟨⟨g_mem 1690 (by decide +kernel) (by decide +kernel), g_mem 16 (by decide +kernel) (by decide +kernel), g_mem 1693 (by decide +kernel) (by decide +kernel), by decide +kernel, by decide⟩, g_mem 1692 (by decide +kernel) (by decide +kernel), g_memS 88 (by decide +kernel) (by decide +kernel), _, rfl, rfl⟩
theorem cv_X11_438 : g_CV RX11 438 11 yX11_isSending cX11_isSending 2 (some .boolean) 1 := ⟨⟨g_mem 1698 (by decide +kernel) (by decide +kernel), g_mem 16 (by decide +kernel) (by decide +kernel), g_mem 1701 (by decide +kernel) (by decide +kernel), by decide +kernel, by decide⟩, g_mem 1700 (by decide +kernel) (by decide +kernel), g_memS 89 (by decide +kernel) (by decide +kernel), _, rfl, rfl⟩
theorem cv_X11_444 : g_CV RX11 444 11 yX11_areThese cX11_areThese 4 (some .boolean) 3 := ⟨⟨g_mem 1718 (by decide +kernel) (by decide +kernel), g_mem 16 (by decide +kernel) (by decide +kernel), g_mem 1721 (by decide +kernel) (by decide +kernel), by decide +kernel, by decide⟩, g_mem 1720 (by decide +kernel) (by decide +kernel), g_memS 90 (by decide +kernel) (by decide +kernel), _, rfl, rfl⟩
theorem cv_X11_451 : g_CV RX11 451 11 yX11_keepNow cX11_keepNow 2 none 0 := ⟨⟨g_mem 1769 (by decide +kernel) (by decide +kernel), g_mem 16 (by decide +kernel) (by decide +kernel), g_mem 1772 (by decide +kernel) (by decide +kernel), by decide +kernel, by decide⟩, g_mem 1771 (by decide +kernel) (by decide +kernel), g_memS 97 (by decide +kernel) (by decide +kernel), _, rfl, rfl⟩
theorem cv_X11_454 : g_CV RX11 454 11 yX11_runs cX11_runs 2 none 1 := ⟨⟨g_mem 1842 (by decide +kernel) (by decide +kernel), g_mem 16 (by decide +kernel) (by decide +kernel), g_mem 1845 (by decide +kernel) (by decide +kernel), by decide +kernel, by decide⟩, g_mem 1844 (by decide +kernel) (by decide +kernel), g_memS 109 (by decide +kernel) (by decide +kernel), _, rfl, rfl⟩
theorem cv_X11_457 : g_CV RX11 457 11 yX11_outcomes cX11_outcomes 5 (some .int) 2 := ⟨⟨g_mem 1850 (by decide +kernel) (by decide +kernel), g_mem 16 (by decide +kernel) (by decide +kernel), g_mem 1853 (by decide +kernel) (by decide +kernel), by decide +kernel, by decide⟩, g_mem 1852 (by decide +kernel) (by decide +kernel), g_memS 111 (by decide +kernel) (by decide +kernel), _, rfl, rfl⟩
theorem cv_X11_460 : g_CV RX11 460 11 yX11_goneMany cX11_goneMany 4 (some .int) 1 := ⟨⟨g_mem 1854 (by decide +kernel) (by decide +kernel), g_mem 16 (by decide +kernel) (by decide +kernel), g_mem 1857 (by decide +kernel) (by decide +kernel), by decide +kernel, by decide⟩, g_mem 1856 (by decide +kernel) (by decide +kernel), g_memS 112 (by decide +kernel) (by decide +kernel), _, rfl, rfl⟩
theorem cv_X11_463 : g_CV RX11 463 11 yX11_mixedMany cX11_mixedMany 5 (some .int) 1 := ⟨⟨g_mem 1858 (by decide +kernel) (by decide +kernel), g_mem 16 (by decide +kernel) (by decide +kernel), g_mem 1861 (by decide +kernel) (by decide +kernel), by decide +kernel, by decide⟩, g_mem 1860 (by decide +kernel) (by decide +kernel), g_memS 113 (by decide +kernel) (by decide +kernel), _, rfl, rfl⟩
theorem cv_X11_472 : g_CV RX11 472 11 yX11_layLoad cX11_layLoad 8 none 0 := ⟨⟨g_mem 1870 (by decide +kernel) (by decide +kernel), g_mem 16 (by decide +kernel) (by decide +kernel), g_mem 1873 (by decide +kernel) (by decide +kernel), by decide +kernel, by decide⟩, g_mem 1872 (by decide +kernel) (by decide +kernel), g_memS 114 (by decide +kernel) (by decide +kernel), _, rfl, rfl⟩
theorem cv_X11_478 : g_CV RX11 478 11 yX11_rows cX11_rows 5 none 2 := ⟨⟨g_mem 1879 (by decide +kernel) (by decide +kernel), g_mem 16 (by decide +kernel) (by decide +kernel), g_mem 1882 (by decide +kernel) (by decide +kernel), by decide +kernel, by decide⟩, g_mem 1881 (by decide +kernel) (by decide +kernel), g_memS 115 (by decide +kernel) (by decide +kernel), _, rfl, rfl⟩
theorem cv_X11_481 : g_CV RX11 481 11 yX11_penceAll cX11_penceAll 4 (some .int) 1 := ⟨⟨g_mem 1883 (by decide +kernel) (by decide +kernel), g_mem 16 (by decide +kernel) (by decide +kernel), g_mem 1886 (by decide +kernel) (by decide +kernel), by decide +kernel, by decide⟩, g_mem 1885 (by decide +kernel) (by decide +kernel), g_memS 116 (by decide +kernel) (by decide +kernel), _, rfl, rfl⟩
theorem cv_X11_491 : g_CV RX11 491 11 yX11_needsOf cX11_needsOf 6 (some .int) 3 := ⟨⟨g_mem 1899 (by decide +kernel) (by decide +kernel), g_mem 16 (by decide +kernel) (by decide +kernel), g_mem 1902 (by decide +kernel) (by decide +kernel), by decide +kernel, by decide⟩, g_mem 1901 (by decide +kernel) (by decide +kernel), g_memS 117 (by decide +kernel) (by decide +kernel), _, rfl, rfl⟩
theorem cv_X11_494 : g_CV RX11 494 11 yX11_hasOf cX11_hasOf 6 (some .int) 4 := ⟨⟨g_mem 1923 (by decide +kernel) (by decide +kernel), g_mem 16 (by decide +kernel) (by decide +kernel), g_mem 1926 (by decide +kernel) (by decide +kernel), by decide +kernel, by decide⟩, g_mem 1925 (by decide +kernel) (by decide +kernel), g_memS 121 (by decide +kernel) (by decide +kernel), _, rfl, rfl⟩
theorem cv_X11_498 : g_CV RX11 498 11 yX11_isRest cX11_isRest 7 (some .boolean) 4 := ⟨⟨g_mem 1919 (by decide +kernel) (by decide +kernel), g_mem 16 (by decide +kernel) (by decide +kernel), g_mem 1922 (by decide +kernel) (by decide +kernel), by decide +kernel, by decide⟩, g_mem 1921 (by decide +kernel) (by decide +kernel), g_memS 120 (by decide +kernel) (by decide +kernel), _, rfl, rfl⟩
theorem cv_X11_501 : g_CV RX11 501 11 yX11_areTwo cX11_areTwo 4 (some .boolean) 3 := ⟨⟨g_mem 1911 (by decide +kernel) (by decide +kernel), g_mem 16 (by decide +kernel) (by decide +kernel), g_mem 1914 (by decide +kernel) (by decide +kernel), by decide +kernel, by decide⟩, g_mem 1913 (by decide +kernel) (by decide +kernel), g_memS 118 (by decide +kernel) (by decide +kernel), _, rfl, rfl⟩
theorem cv_X11_504 : g_CV RX11 504 11 yX11_restOf cX11_restOf 7 (some .int) 4 := ⟨⟨g_mem 1915 (by decide +kernel) (by decide +kernel), g_mem 16 (by decide +kernel) (by decide +kernel), g_mem 1918 (by decide +kernel) (by decide +kernel), by decide +kernel, by decide⟩, g_mem 1917 (by decide +kernel) (by decide +kernel), g_memS 119 (by decide +kernel) (by decide +kernel), _, rfl, rfl⟩
theorem cv_X11_514 : g_CV RX11 514 11 yX11_holderOf cX11_holderOf 5 (some .int) 2 := ⟨⟨g_mem 1944 (by decide +kernel) (by decide +kernel), g_mem 16 (by decide +kernel) (by decide +kernel), g_mem 1947 (by decide +kernel) (by decide +kernel), by decide +kernel, by decide⟩, g_mem 1946 (by decide +kernel) (by decide +kernel), g_memS 122 (by decide +kernel) (by decide +kernel), _, rfl, rfl⟩
theorem cv_X11_517 : g_CV RX11 517 11 yX11_isLost cX11_isLost 3 (some .boolean) 1 := ⟨⟨g_mem 1952 (by decide +kernel) (by decide +kernel), g_mem 16 (by decide +kernel) (by decide +kernel), g_mem 1955 (by decide +kernel) (by decide +kernel), by decide +kernel, by decide⟩, g_mem 1954 (by decide +kernel) (by decide +kernel), g_memS 123 (by decide +kernel) (by decide +kernel), _, rfl, rfl⟩
theorem cv_X11_520 : g_CV RX11 520 11 yX11_knownMany cX11_knownMany 1 (some .int) 0 := ⟨⟨g_mem 1972 (by decide +kernel) (by decide +kernel), g_mem 16 (by decide +kernel) (by decide +kernel), g_mem 1975 (by decide +kernel) (by decide +kernel), by decide +kernel, by decide⟩, g_mem 1974 (by decide +kernel) (by decide +kernel), g_memS 124 (by decide +kernel) (by decide +kernel), _, rfl, rfl⟩
theorem cv_X11_523 : g_CV RX11 523 11 yX11_isSo cX11_isSo 3 (some .boolean) 1 := ⟨⟨g_mem 1981 (by decide +kernel) (by decide +kernel), g_mem 16 (by decide +kernel) (by decide +kernel), g_mem 1984 (by decide +kernel) (by decide +kernel), by decide +kernel, by decide⟩, g_mem 1983 (by decide +kernel) (by decide +kernel), g_memS 126 (by decide +kernel) (by decide +kernel), _, rfl, rfl⟩
theorem cv_X11_528 : g_CV RX11 528 11 yX11_fitsRoom cX11_fitsRoom 3 (some .boolean) 1 := ⟨⟨g_mem 1977 (by decide +kernel) (by decide +kernel), g_mem 16 (by decide +kernel) (by decide +kernel), g_mem 1980 (by decide +kernel) (by decide +kernel), by decide +kernel, by decide⟩, g_mem 1979 (by decide +kernel) (by decide +kernel), g_memS 125 (by decide +kernel) (by decide +kernel), _, rfl, rfl⟩
theorem cv_X11_531 : g_CV RX11 531 11 yX11_ownsAgain cX11_ownsAgain 4 none 1 := ⟨⟨g_mem 1993 (by decide +kernel) (by decide +kernel), g_mem 16 (by decide +kernel) (by decide +kernel), g_mem 1996 (by decide +kernel) (by decide +kernel), by decide +kernel, by decide⟩, g_mem 1995 (by decide +kernel) (by decide +kernel), g_memS 127 (by decide +kernel) (by decide +kernel), _, rfl, rfl⟩
theorem cv_X1_100 : g_CV RX1 100 1 yX1_operatorHere cX1_operatorHere 1 (some .int) 0 := ⟨⟨g_mem 694 (by decide +kernel) (by decide +kernel), g_mem 10 (by decide +kernel) (by decide +kernel), g_mem 697 (by decide +kernel) (by decide +kernel), by decide +kernel, by decide⟩, g_mem 696 (by decide +kernel) (by decide +kernel), g_memS 29 (by decide +kernel) (by decide +kernel), _, rfl, rfl⟩
theorem cv_X1_109 : g_CV RX1 109 1 yX1_write cX1_write 2 none 1 := ⟨⟨g_mem 675 (by decide +kernel) (by decide +kernel), g_mem 10 (by decide +kernel) (by decide +kernel), g_mem 678 (by decide +kernel) (by decide +kernel), by decide +kernel, by decide⟩, g_mem 677 (by decide +kernel) (by decide +kernel), g_memS 25 (by decide +kernel) (by decide +kernel), _, rfl, rfl⟩
theorem cv_X1_45 : g_CV RX1 45 1 yX1_isAtEnd cX1_isAtEnd 1 (some .boolean) 0 := ⟨⟨g_mem 640 (by decide +kernel) (by decide +kernel), g_mem 10 (by decide +kernel) (by decide +kernel), g_mem 643 (by decide +kernel) (by decide +kernel), by decide +kernel, by decide⟩, g_mem 642 (by decide +kernel) (by decide +kernel), g_memS 19 (by decide +kernel) (by decide +kernel), _, rfl, rfl⟩
theorem cv_X1_49 : g_CV RX1 49 1 yX1_takeOperand cX1_takeOperand 2 (some .int) 0 := ⟨⟨g_mem 648 (by decide +kernel) (by decide +kernel), g_mem 10 (by decide +kernel) (by decide +kernel), g_mem 651 (by decide +kernel) (by decide +kernel), by decide +kernel, by decide⟩, g_mem 650 (by decide +kernel) (by decide +kernel), g_memS 20 (by decide +kernel) (by decide +kernel), _, rfl, rfl⟩
theorem cv_X1_53 : g_CV RX1 53 8 yX8_isSign cX8_isSign 2 (some .boolean) 1 := ⟨⟨g_mem 644 (by decide +kernel) (by decide +kernel), g_mem 5 (by decide +kernel) (by decide +kernel), g_mem 647 (by decide +kernel) (by decide +kernel), by decide +kernel, by decide⟩, g_mem 645 (by decide +kernel) (by decide +kernel), g_mem 646 (by decide +kernel) (by decide +kernel), _, rfl, rfl⟩
theorem cv_X1_59 : g_CV RX1 59 1 yX1_takeClose cX1_takeClose 1 (some .int) 0 := ⟨⟨g_mem 679 (by decide +kernel) (by decide +kernel), g_mem 10 (by decide +kernel) (by decide +kernel), g_mem 682 (by decide +kernel) (by decide +kernel), by decide +kernel, by decide⟩, g_mem 681 (by decide +kernel) (by decide +kernel), g_memS 26 (by decide +kernel) (by decide +kernel), _, rfl, rfl⟩
theorem cv_X1_62 : g_CV RX1 62 1 yX1_takeOperator cX1_takeOperator 3 (some .int) 0 := ⟨⟨g_mem 690 (by decide +kernel) (by decide +kernel), g_mem 10 (by decide +kernel) (by decide +kernel), g_mem 693 (by decide +kernel) (by decide +kernel), by decide +kernel, by decide⟩, g_mem 692 (by decide +kernel) (by decide +kernel), g_memS 28 (by decide +kernel) (by decide +kernel), _, rfl, rfl⟩
theorem cv_X1_65 : g_CV RX1 65 8 yX8_step cX8_step 1 none 0 := ⟨⟨g_mem 698 (by decide +kernel) (by decide +kernel), g_mem 5 (by decide +kernel) (by decide +kernel), g_mem 544 (by decide +kernel) (by decide +kernel), by decide +kernel, by decide⟩, g_mem 542 (by decide +kernel) (by decide +kernel), g_mem 543 (by decide +kernel) (by decide +kernel), _, rfl, rfl⟩
theorem cv_X1_68 : g_CV RX1 68 1 yX1_writeWaiting cX1_writeWaiting 2 none 1 := ⟨⟨g_mem 683 (by decide +kernel) (by decide +kernel), g_mem 10 (by decide +kernel) (by decide +kernel), g_mem 686 (by decide +kernel) (by decide +kernel), by decide +kernel, by decide⟩, g_mem 685 (by decide +kernel) (by decide +kernel), g_memS 27 (by decide +kernel) (by decide +kernel), _, rfl, rfl⟩
theorem cv_X1_75 : g_CV RX1 75 1 yX1_takeOpen cX1_takeOpen 1 (some .int) 0 := ⟨⟨g_mem 652 (by decide +kernel) (by decide +kernel), g_mem 10 (by decide +kernel) (by decide +kernel), g_mem 655 (by decide +kernel) (by decide +kernel), by decide +kernel, by decide⟩, g_mem 654 (by decide +kernel) (by decide +kernel), g_memS 21 (by decide +kernel) (by decide +kernel), _, rfl, rfl⟩
theorem cv_X1_78 : g_CV RX1 78 8 yX8_isWord cX8_isWord 2 (some .boolean) 1 := ⟨⟨g_mem 660 (by decide +kernel) (by decide +kernel), g_mem 5 (by decide +kernel) (by decide +kernel), g_mem 663 (by decide +kernel) (by decide +kernel), by decide +kernel, by decide⟩, g_mem 661 (by decide +kernel) (by decide +kernel), g_mem 662 (by decide +kernel) (by decide +kernel), _, rfl, rfl⟩
theorem cv_X1_85 : g_CV RX1 85 1 yX1_takeKnot cX1_takeKnot 2 (some .int) 1 := ⟨⟨g_mem 667 (by decide +kernel) (by decide +kernel), g_mem 10 (by decide +kernel) (by decide +kernel), g_mem 670 (by decide +kernel) (by decide +kernel), by decide +kernel, by decide⟩, g_mem 669 (by decide +kernel) (by decide +kernel), g_memS 23 (by decide +kernel) (by decide +kernel), _, rfl, rfl⟩
theorem cv_X1_94 : g_CV RX1 94 1 yX1_takeLeaf cX1_takeLeaf 2 (some .int) 1 := ⟨⟨g_mem 671 (by decide +kernel) (by decide +kernel), g_mem 10 (by decide +kernel) (by decide +kernel), g_mem 674 (by decide +kernel) (by decide +kernel), by decide +kernel, by decide⟩, g_mem 673 (by decide +kernel) (by decide +kernel), g_memS 24 (by decide +kernel) (by decide +kernel), _, rfl, rfl⟩
theorem cv_X1_97 : g_CV RX1 97 1 yX1_push cX1_push 2 none 1 := ⟨⟨g_mem 656 (by decide +kernel) (by decide +kernel), g_mem 10 (by decide +kernel) (by decide +kernel), g_mem 659 (by decide +kernel) (by decide +kernel), by decide +kernel, by decide⟩, g_mem 658 (by decide +kernel) (by decide +kernel), g_memS 22 (by decide +kernel) (by decide +kernel), _, rfl, rfl⟩
theorem cv_X4_34 : g_CV RX4 34 7 yX7_sendingAt cX7_sendingAt 3 (some .int) 2 := ⟨⟨g_mem 1034 (by decide +kernel) (by decide +kernel), g_mem 11 (by decide +kernel) (by decide +kernel), g_mem 759 (by decide +kernel) (by decide +kernel), by decide +kernel, by decide⟩, g_mem 757 (by decide +kernel) (by decide +kernel), g_mem 758 (by decide +kernel) (by decide +kernel), _, rfl, rfl⟩
theorem cv_X4_44 : g_CV RX4 44 7 yX7_setSending cX7_setSending 4 none 3 := ⟨⟨g_mem 1046 (by decide +kernel) (by decide +kernel), g_mem 11 (by decide +kernel) (by decide +kernel), g_mem 884 (by decide +kernel) (by decide +kernel), by decide +kernel, by decide⟩, g_mem 882 (by decide +kernel) (by decide +kernel), g_mem 883 (by decide +kernel) (by decide +kernel), _, rfl, rfl⟩
theorem cv_X5_101 : g_CV RX5 101 5 yX5_readDeed cX5_readDeed 3 none 0 := ⟨⟨g_mem 599 (by decide +kernel) (by decide +kernel), g_mem 4 (by decide +kernel) (by decide +kernel), g_mem 602 (by decide +kernel) (by decide +kernel), by decide +kernel, by decide⟩, g_mem 601 (by decide +kernel) (by decide +kernel), g_memS 11 (by decide +kernel) (by decide +kernel), _, rfl, rfl⟩
theorem cv_X5_104 : g_CV RX5 104 5 yX5_readSend cX5_readSend 5 none 0 := ⟨⟨g_mem 603 (by decide +kernel) (by decide +kernel), g_mem 4 (by decide +kernel) (by decide +kernel), g_mem 606 (by decide +kernel) (by decide +kernel), by decide +kernel, by decide⟩, g_mem 605 (by decide +kernel) (by decide +kernel), g_memS 12 (by decide +kernel) (by decide +kernel), _, rfl, rfl⟩
theorem cv_X5_107 : g_CV RX5 107 5 yX5_readWant cX5_readWant 7 none 0 := ⟨⟨g_mem 611 (by decide +kernel) (by decide +kernel), g_mem 4 (by decide +kernel) (by decide +kernel), g_mem 614 (by decide +kernel) (by decide +kernel), by decide +kernel, by decide⟩, g_mem 613 (by decide +kernel) (by decide +kernel), g_memS 14 (by decide +kernel) (by decide +kernel), _, rfl, rfl⟩
theorem cv_X5_110 : g_CV RX5 110 5 yX5_readRoom cX5_readRoom 1 none 0 := ⟨⟨g_mem 615 (by decide +kernel) (by decide +kernel), g_mem 4 (by decide +kernel) (by decide +kernel), g_mem 618 (by decide +kernel) (by decide +kernel), by decide +kernel, by decide⟩, g_mem 617 (by decide +kernel) (by decide +kernel), g_memS 15 (by decide +kernel) (by decide +kernel), _, rfl, rfl⟩
theorem cv_X5_113 : g_CV RX5 113 5 yX5_readStorm cX5_readStorm 1 none 0 := ⟨⟨g_mem 619 (by decide +kernel) (by decide +kernel), g_mem 4 (by decide +kernel) (by decide +kernel), g_mem 622 (by decide +kernel) (by decide +kernel), by decide +kernel, by decide⟩, g_mem 621 (by decide +kernel) (by decide +kernel), g_memS 16 (by decide +kernel) (by decide +kernel), _, rfl, rfl⟩
theorem cv_X5_116 : g_CV RX5 116 5 yX5_readSeed cX5_readSeed 1 none 0 := ⟨⟨g_mem 623 (by decide +kernel) (by decide +kernel), g_mem 4 (by decide +kernel) (by decide +kernel), g_mem 626 (by decide +kernel) (by decide +kernel), by decide +kernel, by decide⟩, g_mem 625 (by decide +kernel) (by decide +kernel), g_memS 17 (by decide +kernel) (by decide +kernel), _, rfl, rfl⟩
theorem cv_X5_119 : g_CV RX5 119 5 yX5_readLaw cX5_readLaw 3 none 0 := ⟨⟨g_mem 628 (by decide +kernel) (by decide +kernel), g_mem 4 (by decide +kernel) (by decide +kernel), g_mem 631 (by decide +kernel) (by decide +kernel), by decide +kernel, by decide⟩, g_mem 630 (by decide +kernel) (by decide +kernel), g_memS 18 (by decide +kernel) (by decide +kernel), _, rfl, rfl⟩
theorem cv_X5_122 : g_CV RX5 122 5 yX5_newOne cX5_newOne 4 (some .int) 2 := ⟨⟨g_mem 575 (by decide +kernel) (by decide +kernel), g_mem 4 (by decide +kernel) (by decide +kernel), g_mem 578 (by decide +kernel) (by decide +kernel), by decide +kernel, by decide⟩, g_mem 577 (by decide +kernel) (by decide +kernel), g_memS 6 (by decide +kernel) (by decide +kernel), _, rfl, rfl⟩
theorem cv_X5_126 : g_CV RX5 126 5 yX5_number cX5_number 4 (some .int) 2 := ⟨⟨g_mem 591 (by decide +kernel) (by decide +kernel), g_mem 4 (by decide +kernel) (by decide +kernel), g_mem 594 (by decide +kernel) (by decide +kernel), by decide +kernel, by decide⟩, g_mem 593 (by decide +kernel) (by decide +kernel), g_memS 9 (by decide +kernel) (by decide +kernel), _, rfl, rfl⟩
theorem cv_X5_145 : g_CV RX5 145 5 yX5_oldOne cX5_oldOne 3 (some .int) 1 := ⟨⟨g_mem 607 (by decide +kernel) (by decide +kernel), g_mem 4 (by decide +kernel) (by decide +kernel), g_mem 610 (by decide +kernel) (by decide +kernel), by decide +kernel, by decide⟩, g_mem 609 (by decide +kernel) (by decide +kernel), g_memS 13 (by decide +kernel) (by decide +kernel), _, rfl, rfl⟩
theorem cv_X5_168 : g_CV RX5 168 2 yX2_isTold cX2_isTold 2 (some .boolean) 1 := ⟨⟨g_mem 632 (by decide +kernel) (by decide +kernel), g_mem 3 (by decide +kernel) (by decide +kernel), g_mem 635 (by decide +kernel) (by decide +kernel), by decide +kernel, by decide⟩, g_mem 633 (by decide +kernel) (by decide +kernel), g_mem 634 (by decide +kernel) (by decide +kernel), _, rfl, rfl⟩
theorem cv_X5_173 : g_CV RX5 173 1 yX1_reads cX1_reads 5 (some .int) 2 := ⟨⟨g_mem 636 (by decide +kernel) (by decide +kernel), g_mem 10 (by decide +kernel) (by decide +kernel), g_mem 639 (by decide +kernel) (by decide +kernel), by decide +kernel, by decide⟩, g_mem 637 (by decide +kernel) (by decide +kernel), g_mem 638 (by decide +kernel) (by decide +kernel), _, rfl, rfl⟩
theorem cv_X5_180 : g_CV RX5 180 9 yX9_find cX9_find 4 (some .int) 2 := ⟨⟨g_mem 587 (by decide +kernel) (by decide +kernel), g_mem 2 (by decide +kernel) (by decide +kernel), g_mem 590 (by decide +kernel) (by decide +kernel), by decide +kernel, by decide⟩, g_mem 588 (by decide +kernel) (by decide +kernel), g_mem 589 (by decide +kernel) (by decide +kernel), _, rfl, rfl⟩
theorem cv_X5_59 : g_CV RX5 59 9 yX9_clear cX9_clear 1 none 0 := ⟨⟨g_mem 526 (by decide +kernel) (by decide +kernel), g_mem 2 (by decide +kernel) (by decide +kernel), g_mem 529 (by decide +kernel) (by decide +kernel), by decide +kernel, by decide⟩, g_mem 527 (by decide +kernel) (by decide +kernel), g_mem 528 (by decide +kernel) (by decide +kernel), _, rfl, rfl⟩
theorem cv_X5_62 : g_CV RX5 62 8 yX8_begin cX8_begin 2 none 1 := ⟨⟨g_mem 534 (by decide +kernel) (by decide +kernel), g_mem 5 (by decide +kernel) (by decide +kernel), g_mem 537 (by decide +kernel) (by decide +kernel), by decide +kernel, by decide⟩, g_mem 535 (by decide +kernel) (by decide +kernel), g_mem 536 (by decide +kernel) (by decide +kernel), _, rfl, rfl⟩
theorem cv_X5_66 : g_CV RX5 66 8 yX8_step cX8_step 1 none 0 := ⟨⟨g_mem 541 (by decide +kernel) (by decide +kernel), g_mem 5 (by decide +kernel) (by decide +kernel), g_mem 544 (by decide +kernel) (by decide +kernel), by decide +kernel, by decide⟩, g_mem 542 (by decide +kernel) (by decide +kernel), g_mem 543 (by decide +kernel) (by decide +kernel), _, rfl, rfl⟩
theorem cv_X5_72 : g_CV RX5 72 5 yX5_readLine cX5_readLine 2 none 0 := ⟨⟨g_mem 567 (by decide +kernel) (by decide +kernel), g_mem 4 (by decide +kernel) (by decide +kernel), g_mem 570 (by decide +kernel) (by decide +kernel), by decide +kernel, by decide⟩, g_mem 569 (by decide +kernel) (by decide +kernel), g_memS 4 (by decide +kernel) (by decide +kernel), _, rfl, rfl⟩
theorem cv_X5_75 : g_CV RX5 75 5 yX5_needSign cX5_needSign 2 none 1 := ⟨⟨g_mem 699 (by decide +kernel) (by decide +kernel), g_mem 4 (by decide +kernel) (by decide +kernel), g_mem 702 (by decide +kernel) (by decide +kernel), by decide +kernel, by decide⟩, g_mem 701 (by decide +kernel) (by decide +kernel), g_memS 30 (by decide +kernel) (by decide +kernel), _, rfl, rfl⟩
theorem cv_X5_81 : g_CV RX5 81 5 yX5_fail cX5_fail 2 none 1 := ⟨⟨g_mem 583 (by decide +kernel) (by decide +kernel), g_mem 4 (by decide +kernel) (by decide +kernel), g_mem 586 (by decide +kernel) (by decide +kernel), by decide +kernel, by decide⟩, g_mem 585 (by decide +kernel) (by decide +kernel), g_memS 8 (by decide +kernel) (by decide +kernel), _, rfl, rfl⟩
theorem cv_X5_84 : g_CV RX5 84 8 yX8_isSign cX8_isSign 2 (some .boolean) 1 := ⟨⟨g_mem 703 (by decide +kernel) (by decide +kernel), g_mem 5 (by decide +kernel) (by decide +kernel), g_mem 647 (by decide +kernel) (by decide +kernel), by decide +kernel, by decide⟩, g_mem 645 (by decide +kernel) (by decide +kernel), g_mem 646 (by decide +kernel) (by decide +kernel), _, rfl, rfl⟩
theorem cv_X5_88 : g_CV RX5 88 5 yX5_failIf cX5_failIf 3 none 2 := ⟨⟨g_mem 579 (by decide +kernel) (by decide +kernel), g_mem 4 (by decide +kernel) (by decide +kernel), g_mem 582 (by decide +kernel) (by decide +kernel), by decide +kernel, by decide⟩, g_mem 581 (by decide +kernel) (by decide +kernel), g_memS 7 (by decide +kernel) (by decide +kernel), _, rfl, rfl⟩
theorem cv_X5_95 : g_CV RX5 95 5 yX5_readMan cX5_readMan 3 none 0 := ⟨⟨g_mem 571 (by decide +kernel) (by decide +kernel), g_mem 4 (by decide +kernel) (by decide +kernel), g_mem 574 (by decide +kernel) (by decide +kernel), by decide +kernel, by decide⟩, g_mem 573 (by decide +kernel) (by decide +kernel), g_memS 5 (by decide +kernel) (by decide +kernel), _, rfl, rfl⟩
theorem cv_X5_98 : g_CV RX5 98 5 yX5_readSort cX5_readSort 4 none 0 := ⟨⟨g_mem 595 (by decide +kernel) (by decide +kernel), g_mem 4 (by decide +kernel) (by decide +kernel), g_mem 598 (by decide +kernel) (by decide +kernel), by decide +kernel, by decide⟩, g_mem 597 (by decide +kernel) (by decide +kernel), g_memS 10 (by decide +kernel) (by decide +kernel), _, rfl, rfl⟩
theorem cv_X6_38 : g_CV RX6 38 6 yX6_put cX6_put 5 (some .int) 4 := ⟨⟨g_mem 1141 (by decide +kernel) (by decide +kernel), g_mem 14 (by decide +kernel) (by decide +kernel), g_mem 1132 (by decide +kernel) (by decide +kernel), by decide +kernel, by decide⟩, g_mem 1130 (by decide +kernel) (by decide +kernel), g_mem 1131 (by decide +kernel) (by decide +kernel), _, rfl, rfl⟩
theorem cv_X6_42 : g_CV RX6 42 6 yX6_limit cX6_limit 1 (some .int) 0 := ⟨⟨g_mem 1154 (by decide +kernel) (by decide +kernel), g_mem 14 (by decide +kernel) (by decide +kernel), g_mem 1157 (by decide +kernel) (by decide +kernel), by decide +kernel, by decide⟩, g_mem 1155 (by decide +kernel) (by decide +kernel), g_mem 1156 (by decide +kernel) (by decide +kernel), _, rfl, rfl⟩
theorem cv_X7_58 : g_CV RX7 58 7 yX7_giveOwn cX7_giveOwn 2 none 0 := ⟨⟨g_mem 711 (by decide +kernel) (by decide +kernel), g_mem 11 (by decide +kernel) (by decide +kernel), g_mem 714 (by decide +kernel) (by decide +kernel), by decide +kernel, by decide⟩, g_mem 712 (by decide +kernel) (by decide +kernel), g_mem 713 (by decide +kernel) (by decide +kernel), _, rfl, rfl⟩
theorem cv_X7_61 : g_CV RX7 61 7 yX7_setSending cX7_setSending 4 none 3 := ⟨⟨g_mem 881 (by decide +kernel) (by decide +kernel), g_mem 11 (by decide +kernel) (by decide +kernel), g_mem 884 (by decide +kernel) (by decide +kernel), by decide +kernel, by decide⟩, g_mem 882 (by decide +kernel) (by decide +kernel), g_mem 883 (by decide +kernel) (by decide +kernel), _, rfl, rfl⟩
theorem cv_X7_65 : g_CV RX7 65 7 yX7_sendingAt cX7_sendingAt 3 (some .int) 2 := ⟨⟨g_mem 950 (by decide +kernel) (by decide +kernel), g_mem 11 (by decide +kernel) (by decide +kernel), g_mem 759 (by decide +kernel) (by decide +kernel), by decide +kernel, by decide⟩, g_mem 757 (by decide +kernel) (by decide +kernel), g_mem 758 (by decide +kernel) (by decide +kernel), _, rfl, rfl⟩
theorem cv_X7_69 : g_CV RX7 69 7 yX7_isDue cX7_isDue 2 (some .boolean) 1 := ⟨⟨g_mem 1124 (by decide +kernel) (by decide +kernel), g_mem 11 (by decide +kernel) (by decide +kernel), g_mem 949 (by decide +kernel) (by decide +kernel), by decide +kernel, by decide⟩, g_mem 947 (by decide +kernel) (by decide +kernel), g_mem 948 (by decide +kernel) (by decide +kernel), _, rfl, rfl⟩
theorem cv_X7_76 : g_CV RX7 76 7 yX7_sortsAt cX7_sortsAt 5 (some .int) 2 := ⟨⟨g_mem 803 (by decide +kernel) (by decide +kernel), g_mem 11 (by decide +kernel) (by decide +kernel), g_mem 806 (by decide +kernel) (by decide +kernel), by decide +kernel, by decide⟩, g_mem 804 (by decide +kernel) (by decide +kernel), g_mem 805 (by decide +kernel) (by decide +kernel), _, rfl, rfl⟩
theorem cv_X7_91 : g_CV RX7 91 9 yX9_wantAt cX9_wantAt 3 (some .int) 2 := ⟨⟨g_mem 1274 (by decide +kernel) (by decide +kernel), g_mem 2 (by decide +kernel) (by decide +kernel), g_mem 771 (by decide +kernel) (by decide +kernel), by decide +kernel, by decide⟩, g_mem 769 (by decide +kernel) (by decide +kernel), g_mem 770 (by decide +kernel) (by decide +kernel), _, rfl, rfl⟩
theorem cv_X7_94 : g_CV RX7 94 7 yX7_ownSorts cX7_ownSorts 4 (some .int) 1 := ⟨⟨g_mem 1003 (by decide +kernel) (by decide +kernel), g_mem 11 (by decide +kernel) (by decide +kernel), g_mem 1006 (by decide +kernel) (by decide +kernel), by decide +kernel, by decide⟩, g_mem 1004 (by decide +kernel) (by decide +kernel), g_mem 1005 (by decide +kernel) (by decide +kernel), _, rfl, rfl⟩
theorem cv_X8_56 : g_CV RX8 56 8 yX8_stepWord cX8_stepWord 2 none 0 := ⟨⟨g_mem 548 (by decide +kernel) (by decide +kernel), g_mem 5 (by decide +kernel) (by decide +kernel), g_mem 551 (by decide +kernel) (by decide +kernel), by decide +kernel, by decide⟩, g_mem 550 (by decide +kernel) (by decide +kernel), g_memS 1 (by decide +kernel) (by decide +kernel), _, rfl, rfl⟩
theorem cv_X8_62 : g_CV RX8 62 8 yX8_stepNumber cX8_stepNumber 1 none 0 := ⟨⟨g_mem 555 (by decide +kernel) (by decide +kernel), g_mem 5 (by decide +kernel) (by decide +kernel), g_mem 558 (by decide +kernel) (by decide +kernel), by decide +kernel, by decide⟩, g_mem 557 (by decide +kernel) (by decide +kernel), g_memS 2 (by decide +kernel) (by decide +kernel), _, rfl, rfl⟩
theorem cv_X8_65 : g_CV RX8 65 8 yX8_stepSign cX8_stepSign 3 none 0 := ⟨⟨g_mem 560 (by decide +kernel) (by decide +kernel), g_mem 5 (by decide +kernel) (by decide +kernel), g_mem 563 (by decide +kernel) (by decide +kernel), by decide +kernel, by decide⟩, g_mem 562 (by decide +kernel) (by decide +kernel), g_memS 3 (by decide +kernel) (by decide +kernel), _, rfl, rfl⟩
theorem cv_X9_59 : g_CV RX9 59 2 yX2_clear cX2_clear 2 none 0 := ⟨⟨g_mem 530 (by decide +kernel) (by decide +kernel), g_mem 3 (by decide +kernel) (by decide +kernel), g_mem 533 (by decide +kernel) (by decide +kernel), by decide +kernel, by decide⟩, g_mem 531 (by decide +kernel) (by decide +kernel), g_mem 532 (by decide +kernel) (by decide +kernel), _, rfl, rfl⟩
theorem mm_X0_104 : Cond.methodLink RX0 104 Lib.Math.min.name ∈ g_ws := g_mem 940 (by decide +kernel) (by decide +kernel)
theorem mm_X0_200 : Cond.methodLink RX0 200 Lib.MathLoose.min_long.x ∈ g_ws := g_mem 933 (by decide +kernel) (by decide +kernel)
theorem mm_X0_203 : Cond.methodLink RX0 203 Lib.MathLoose.max_long.x ∈ g_ws := g_mem 936 (by decide +kernel) (by decide +kernel)
theorem mm_X10_265 : Cond.methodLink RX10 265 Lib.Math.max.name ∈ g_ws := g_mem 1024 (by decide +kernel) (by decide +kernel)
theorem mm_X11_330 : Cond.methodLink RX11 330 Lib.MathLoose.abs_long.x ∈ g_ws := g_mem 1760 (by decide +kernel) (by decide +kernel)
theorem mm_X11_358 : Cond.methodLink RX11 358 Lib.MathLoose.min_long.x ∈ g_ws := g_mem 1805 (by decide +kernel) (by decide +kernel)
theorem mm_X11_362 : Cond.methodLink RX11 362 Lib.MathLoose.max_long.x ∈ g_ws := g_mem 1806 (by decide +kernel) (by decide +kernel)
theorem mm_X11_380 : Cond.methodLink RX11 380 Lib.Math.min.name ∈ g_ws := g_mem 1807 (by decide +kernel) (by decide +kernel)
theorem mm_X11_526 : Cond.methodLink RX11 526 Lib.Math.max.name ∈ g_ws := g_mem 1976 (by decide +kernel) (by decide +kernel)
theorem mm_X1_103 : Cond.methodLink RX1 103 Lib.Math.max.name ∈ g_ws := g_mem 687 (by decide +kernel) (by decide +kernel)
theorem mm_X3_19 : Cond.methodLink RX3 19 arraycopyName ∈ g_ws := g_mem 889 (by decide +kernel) (by decide +kernel)
theorem mm_X6_46 : Cond.methodLink RX6 46 Lib.Math.max.name ∈ g_ws := g_mem 1158 (by decide +kernel) (by decide +kernel)
theorem mm_X7_51 : Cond.methodLink RX7 51 arraycopyName ∈ g_ws := g_mem 708 (by decide +kernel) (by decide +kernel)
theorem mm_X8_46 : Cond.methodLink RX8 46 Lib.Math.min.name ∈ g_ws := g_mem 538 (by decide +kernel) (by decide +kernel)
theorem kn_copy : Cond.native arraycopyName ∈ g_ws := g_mem 710 (by decide +kernel) (by decide +kernel)
theorem ks_copy : Cond.static arraycopyName ∈ g_ws := g_mem 709 (by decide +kernel) (by decide +kernel)
theorem ki_System : Cond.initialized "java/lang/System" ∈ g_ws := g_mem 18 (by decide +kernel) (by decide +kernel)
theorem ki_Math : Cond.initialized "java/lang/Math" ∈ g_ws := g_mem 17 (by decide +kernel) (by decide +kernel)
theorem km_max : Cond.static Lib.Math.max.name ∈ g_ws ∧ Cond.code Lib.Math.max.name Lib.Math.max.code 2 (some .int) ∈ g_ws := ⟨g_mem 688 (by decide +kernel) (by decide +kernel), g_mem 689 (by decide +kernel) (by decide +kernel)⟩
theorem km_min : Cond.static Lib.Math.min.name ∈ g_ws ∧ Cond.code Lib.Math.min.name Lib.Math.min.code 2 (some .int) ∈ g_ws := ⟨g_mem 539 (by decide +kernel) (by decide +kernel), g_mem 540 (by decide +kernel) (by decide +kernel)⟩
theorem km_maxL : Cond.static Lib.MathLoose.max_long.x ∈ g_ws ∧ Cond.code Lib.MathLoose.max_long.x Lib.MathLoose.max_long.code 4 (some .long) ∈ g_ws := ⟨g_mem 937 (by decide +kernel) (by decide +kernel), g_mem 938 (by decide +kernel) (by decide +kernel)⟩
theorem km_minL : Cond.static Lib.MathLoose.min_long.x ∈ g_ws ∧ Cond.code Lib.MathLoose.min_long.x Lib.MathLoose.min_long.code 4 (some .long) ∈ g_ws := ⟨g_mem 934 (by decide +kernel) (by decide +kernel), g_mem 935 (by decide +kernel) (by decide +kernel)⟩
theorem km_absL : Cond.static Lib.MathLoose.abs_long.x ∈ g_ws ∧ Cond.code Lib.MathLoose.abs_long.x Lib.MathLoose.abs_long.code 2 (some .long) ∈ g_ws := ⟨g_mem 1761 (by decide +kernel) (by decide +kernel), g_mem 1762 (by decide +kernel) (by decide +kernel)⟩
