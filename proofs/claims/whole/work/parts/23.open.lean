/-! FROM THE MAKING TO THE LOOP -/
def wireL : List (Nat × Nat × Int) := [(0, 0, 1), (0, 1, 2), (0, 2, 3), (0, 3, 4), (0, 4, 5), (0, 5, 6), (0, 6, 7), (0, 7, 8), (1, 0, 9), (1, 1, 10), (1, 2, 11), (1, 4, 12), (1, 5, 13), (2, 0, 14), (2, 1, 15), (3, 0, 16), (4, 0, 17), (5, 0, 3), (5, 1, 18), (6, 0, 4), (6, 1, 1), (6, 2, 2), (6, 3, 19), (6, 4, 20), (7, 0, 6), (7, 1, 4), (7, 2, 1), (7, 3, 21), (7, 4, 22), (7, 6, 23), (7, 7, 24), (7, 8, 25), (7, 9, 26), (7, 10, 27), (7, 11, 28), (7, 12, 29), (7, 13, 30), (7, 16, 31), (8, 0, 6), (8, 1, 32), (8, 2, 33), (8, 3, 34), (8, 4, 35), (8, 8, 36), (8, 9, 37), (8, 11, 38), (8, 12, 39), (300, 5, 301), (300, 6, 302), (300, 7, 303), (300, 8, 304), (300, 9, 305), (300, 10, 306), (300, 11, 307), (300, 12, 308), (300, 13, 309), (300, 14, 310), (300, 18, 311), (300, 23, 312), (300, 24, 313), (300, 25, 314), (300, 27, 315), (300, 28, 316), (300, 29, 317), (300, 30, 318), (300, 31, 319), (300, 34, 320), (300, 35, 321), (300, 36, 322), (300, 37, 323), (300, 38, 324), (300, 39, 325), (300, 40, 326), (300, 41, 327), (300, 42, 328), (300, 43, 329), (300, 44, 330), (300, 46, 331), (300, 47, 332), (300, 48, 333), (300, 49, 334), (300, 50, 335), (300, 52, 336), (300, 53, 337)]
/-- every reference stands as the layout has it; no stone, no gang yet -/
def wired (μ : Mem) : Prop := (∀ w ∈ wireL, μ w.1 w.2.1 = w.2.2) ∧ (∀ i : Nat, i < 5 → μ 23 i = 40 + (i : Int)) ∧ (∀ i : Nat, i < 5 → μ 31 i = 45 + (i : Int)) ∧ (∀ i : Nat, i < 40 → μ 337 i = 338 + (i : Int)) ∧ μ 90 0 = 0 ∧ μ 90 1 = 0
def wiredB (μ : Mem) : Bool := wireL.all (fun w => decide (μ w.1 w.2.1 = w.2.2)) && ((List.range 5).all (fun i => decide (μ 23 i = 40 + (i : Int))) && ((List.range 5).all (fun i => decide (μ 31 i = 45 + (i : Int))) && ((List.range 40).all (fun i => decide (μ 337 i = 338 + (i : Int))) && (decide (μ 90 0 = 0) && decide (μ 90 1 = 0)))))
theorem wired_of {μ : Mem} (h : wiredB μ = true) : wired μ := by
  unfold wiredB at h
  simp only [Bool.and_eq_true, List.all_eq_true, decide_eq_true_eq, List.mem_range] at h
  exact h
def allL : List Nat := [0, 1, 9, 10, 11, 12, 13, 2, 14, 15, 3, 16, 4, 17, 5, 18, 6, 19, 20, 7, 21, 22, 23, 40, 41, 42, 43, 44, 24, 25, 26, 27, 28, 29, 30, 31, 45, 46, 47, 48, 49, 8, 32, 33, 34, 35, 36, 37, 38, 39, 300, 301, 302, 303, 304, 305, 306, 307, 308, 309, 310, 311, 312, 313, 314, 315, 316, 317, 318, 319, 320, 321, 322, 323, 324, 325, 326, 327, 328, 329, 330, 331, 332, 333, 334, 335, 336, 337, 338, 339, 340, 341, 342, 343, 344, 345, 346, 347, 348, 349, 350, 351, 352, 353, 354, 355, 356, 357, 358, 359, 360, 361, 362, 363, 364, 365, 366, 367, 368, 369, 370, 371, 372, 373, 374, 375, 376, 377]
theorem allL_bas : ∀ o ∈ allL, bas o = true := by decide +kernel
theorem bas_allL : ∀ o, o < 400 → bas o = true → o ∈ allL := by decide +kernel
theorem se_D {cy : Nat → ClassId} {ad : Nat → Nat} {μ : Mem} (hw : wired μ) : ∀ o ∈ allL, seE (layD cy ad o (μ o)) (lay cy ad o (μ o)) := by
  obtain ⟨h1, h2, h3, h4, -, -⟩ := hw
  unfold allL
  refine List.forall_mem_cons.mpr ⟨(by rw [lyD_0, ly_0, show μ 0 0 = 1 from h1 (0, 0, 1) (by decide +kernel), show μ 0 1 = 2 from h1 (0, 1, 2) (by decide +kernel), show μ 0 2 = 3 from h1 (0, 2, 3) (by decide +kernel), show μ 0 3 = 4 from h1 (0, 3, 4) (by decide +kernel), show μ 0 4 = 5 from h1 (0, 4, 5) (by decide +kernel), show μ 0 5 = 6 from h1 (0, 5, 6) (by decide +kernel), show μ 0 6 = 7 from h1 (0, 6, 7) (by decide +kernel), show μ 0 7 = 8 from h1 (0, 7, 8) (by decide +kernel)]; exact seE_rf _), ?_⟩
  refine List.forall_mem_cons.mpr ⟨(by rw [lyD_1, ly_1, show μ 1 0 = 9 from h1 (1, 0, 9) (by decide +kernel), show μ 1 1 = 10 from h1 (1, 1, 10) (by decide +kernel), show μ 1 2 = 11 from h1 (1, 2, 11) (by decide +kernel), show μ 1 4 = 12 from h1 (1, 4, 12) (by decide +kernel), show μ 1 5 = 13 from h1 (1, 5, 13) (by decide +kernel)]; exact seE_rf _), ?_⟩
  refine List.forall_mem_cons.mpr ⟨(by rw [lyD_9, ly_9]; exact seE_rf _), ?_⟩
  refine List.forall_mem_cons.mpr ⟨(by rw [lyD_10, ly_10]; exact seE_rf _), ?_⟩
  refine List.forall_mem_cons.mpr ⟨(by rw [lyD_11, ly_11]; exact seE_rf _), ?_⟩
  refine List.forall_mem_cons.mpr ⟨(by rw [lyD_12, ly_12]; exact seE_rf _), ?_⟩
  refine List.forall_mem_cons.mpr ⟨(by rw [lyD_13, ly_13]; exact seE_rf _), ?_⟩
  refine List.forall_mem_cons.mpr ⟨(by rw [lyD_2, ly_2, show μ 2 0 = 14 from h1 (2, 0, 14) (by decide +kernel), show μ 2 1 = 15 from h1 (2, 1, 15) (by decide +kernel)]; exact seE_rf _), ?_⟩
  refine List.forall_mem_cons.mpr ⟨(by rw [lyD_14, ly_14]; exact seE_rf _), ?_⟩
  refine List.forall_mem_cons.mpr ⟨(by rw [lyD_15, ly_15]; exact seE_rf _), ?_⟩
  refine List.forall_mem_cons.mpr ⟨(by rw [lyD_3, ly_3, show μ 3 0 = 16 from h1 (3, 0, 16) (by decide +kernel)]; exact seE_rf _), ?_⟩
  refine List.forall_mem_cons.mpr ⟨(by rw [lyD_16, ly_16]; exact seE_rf _), ?_⟩
  refine List.forall_mem_cons.mpr ⟨(by rw [lyD_4, ly_4, show μ 4 0 = 17 from h1 (4, 0, 17) (by decide +kernel)]; exact seE_rf _), ?_⟩
  refine List.forall_mem_cons.mpr ⟨(by rw [lyD_17, ly_17]; exact seE_rf _), ?_⟩
  refine List.forall_mem_cons.mpr ⟨(by rw [lyD_5, ly_5, show μ 5 0 = 3 from h1 (5, 0, 3) (by decide +kernel), show μ 5 1 = 18 from h1 (5, 1, 18) (by decide +kernel)]; exact seE_rf _), ?_⟩
  refine List.forall_mem_cons.mpr ⟨(by rw [lyD_18, ly_18]; exact seE_rf _), ?_⟩
  refine List.forall_mem_cons.mpr ⟨(by rw [lyD_6, ly_6, show μ 6 0 = 4 from h1 (6, 0, 4) (by decide +kernel), show μ 6 1 = 1 from h1 (6, 1, 1) (by decide +kernel), show μ 6 2 = 2 from h1 (6, 2, 2) (by decide +kernel), show μ 6 3 = 19 from h1 (6, 3, 19) (by decide +kernel), show μ 6 4 = 20 from h1 (6, 4, 20) (by decide +kernel)]; exact seE_rf _), ?_⟩
  refine List.forall_mem_cons.mpr ⟨(by rw [lyD_19, ly_19]; exact seE_rf _), ?_⟩
  refine List.forall_mem_cons.mpr ⟨(by rw [lyD_20, ly_20]; exact seE_rf _), ?_⟩
  refine List.forall_mem_cons.mpr ⟨(by rw [lyD_7, ly_7, show μ 7 0 = 6 from h1 (7, 0, 6) (by decide +kernel), show μ 7 1 = 4 from h1 (7, 1, 4) (by decide +kernel), show μ 7 2 = 1 from h1 (7, 2, 1) (by decide +kernel), show μ 7 3 = 21 from h1 (7, 3, 21) (by decide +kernel), show μ 7 4 = 22 from h1 (7, 4, 22) (by decide +kernel), show μ 7 6 = 23 from h1 (7, 6, 23) (by decide +kernel), show μ 7 7 = 24 from h1 (7, 7, 24) (by decide +kernel), show μ 7 8 = 25 from h1 (7, 8, 25) (by decide +kernel), show μ 7 9 = 26 from h1 (7, 9, 26) (by decide +kernel), show μ 7 10 = 27 from h1 (7, 10, 27) (by decide +kernel), show μ 7 11 = 28 from h1 (7, 11, 28) (by decide +kernel), show μ 7 12 = 29 from h1 (7, 12, 29) (by decide +kernel), show μ 7 13 = 30 from h1 (7, 13, 30) (by decide +kernel), show μ 7 16 = 31 from h1 (7, 16, 31) (by decide +kernel)]; exact seE_rf _), ?_⟩
  refine List.forall_mem_cons.mpr ⟨(by rw [lyD_21, ly_21]; exact seE_rf _), ?_⟩
  refine List.forall_mem_cons.mpr ⟨(by rw [lyD_22, ly_22]; exact seE_rf _), ?_⟩
  refine List.forall_mem_cons.mpr ⟨(by rw [lyD_23, ly_23]; exact seE_R (fun j hj => by rw [h2 j hj])), ?_⟩
  refine List.forall_mem_cons.mpr ⟨(by rw [lyD_40, ly_40]; exact seE_rf _), ?_⟩
  refine List.forall_mem_cons.mpr ⟨(by rw [lyD_41, ly_41]; exact seE_rf _), ?_⟩
  refine List.forall_mem_cons.mpr ⟨(by rw [lyD_42, ly_42]; exact seE_rf _), ?_⟩
  refine List.forall_mem_cons.mpr ⟨(by rw [lyD_43, ly_43]; exact seE_rf _), ?_⟩
  refine List.forall_mem_cons.mpr ⟨(by rw [lyD_44, ly_44]; exact seE_rf _), ?_⟩
  refine List.forall_mem_cons.mpr ⟨(by rw [lyD_24, ly_24]; exact seE_rf _), ?_⟩
  refine List.forall_mem_cons.mpr ⟨(by rw [lyD_25, ly_25]; exact seE_rf _), ?_⟩
  refine List.forall_mem_cons.mpr ⟨(by rw [lyD_26, ly_26]; exact seE_rf _), ?_⟩
  refine List.forall_mem_cons.mpr ⟨(by rw [lyD_27, ly_27]; exact seE_rf _), ?_⟩
  refine List.forall_mem_cons.mpr ⟨(by rw [lyD_28, ly_28]; exact seE_rf _), ?_⟩
  refine List.forall_mem_cons.mpr ⟨(by rw [lyD_29, ly_29]; exact seE_rf _), ?_⟩
  refine List.forall_mem_cons.mpr ⟨(by rw [lyD_30, ly_30]; exact seE_rf _), ?_⟩
  refine List.forall_mem_cons.mpr ⟨(by rw [lyD_31, ly_31]; exact seE_R (fun j hj => by rw [h3 j hj])), ?_⟩
  refine List.forall_mem_cons.mpr ⟨(by rw [lyD_45, ly_45]; exact seE_rf _), ?_⟩
  refine List.forall_mem_cons.mpr ⟨(by rw [lyD_46, ly_46]; exact seE_rf _), ?_⟩
  refine List.forall_mem_cons.mpr ⟨(by rw [lyD_47, ly_47]; exact seE_rf _), ?_⟩
  refine List.forall_mem_cons.mpr ⟨(by rw [lyD_48, ly_48]; exact seE_rf _), ?_⟩
  refine List.forall_mem_cons.mpr ⟨(by rw [lyD_49, ly_49]; exact seE_rf _), ?_⟩
  refine List.forall_mem_cons.mpr ⟨(by rw [lyD_8, ly_8, show μ 8 0 = 6 from h1 (8, 0, 6) (by decide +kernel), show μ 8 1 = 32 from h1 (8, 1, 32) (by decide +kernel), show μ 8 2 = 33 from h1 (8, 2, 33) (by decide +kernel), show μ 8 3 = 34 from h1 (8, 3, 34) (by decide +kernel), show μ 8 4 = 35 from h1 (8, 4, 35) (by decide +kernel), show μ 8 8 = 36 from h1 (8, 8, 36) (by decide +kernel), show μ 8 9 = 37 from h1 (8, 9, 37) (by decide +kernel), show μ 8 11 = 38 from h1 (8, 11, 38) (by decide +kernel), show μ 8 12 = 39 from h1 (8, 12, 39) (by decide +kernel)]; exact seE_rf _), ?_⟩
  refine List.forall_mem_cons.mpr ⟨(by rw [lyD_32, ly_32]; exact seE_rf _), ?_⟩
  refine List.forall_mem_cons.mpr ⟨(by rw [lyD_33, ly_33]; exact seE_rf _), ?_⟩
  refine List.forall_mem_cons.mpr ⟨(by rw [lyD_34, ly_34]; exact seE_rf _), ?_⟩
  refine List.forall_mem_cons.mpr ⟨(by rw [lyD_35, ly_35]; exact seE_rf _), ?_⟩
  refine List.forall_mem_cons.mpr ⟨(by rw [lyD_36, ly_36]; exact seE_rf _), ?_⟩
  refine List.forall_mem_cons.mpr ⟨(by rw [lyD_37, ly_37]; exact seE_rf _), ?_⟩
  refine List.forall_mem_cons.mpr ⟨(by rw [lyD_38, ly_38]; exact seE_rf _), ?_⟩
  refine List.forall_mem_cons.mpr ⟨(by rw [lyD_39, ly_39]; exact seE_rf _), ?_⟩
  refine List.forall_mem_cons.mpr ⟨(by rw [lyD_300, ly_300, show μ 300 5 = 301 from h1 (300, 5, 301) (by decide +kernel), show μ 300 6 = 302 from h1 (300, 6, 302) (by decide +kernel), show μ 300 7 = 303 from h1 (300, 7, 303) (by decide +kernel), show μ 300 8 = 304 from h1 (300, 8, 304) (by decide +kernel), show μ 300 9 = 305 from h1 (300, 9, 305) (by decide +kernel), show μ 300 10 = 306 from h1 (300, 10, 306) (by decide +kernel), show μ 300 11 = 307 from h1 (300, 11, 307) (by decide +kernel), show μ 300 12 = 308 from h1 (300, 12, 308) (by decide +kernel), show μ 300 13 = 309 from h1 (300, 13, 309) (by decide +kernel), show μ 300 14 = 310 from h1 (300, 14, 310) (by decide +kernel), show μ 300 18 = 311 from h1 (300, 18, 311) (by decide +kernel), show μ 300 23 = 312 from h1 (300, 23, 312) (by decide +kernel), show μ 300 24 = 313 from h1 (300, 24, 313) (by decide +kernel), show μ 300 25 = 314 from h1 (300, 25, 314) (by decide +kernel), show μ 300 27 = 315 from h1 (300, 27, 315) (by decide +kernel), show μ 300 28 = 316 from h1 (300, 28, 316) (by decide +kernel), show μ 300 29 = 317 from h1 (300, 29, 317) (by decide +kernel), show μ 300 30 = 318 from h1 (300, 30, 318) (by decide +kernel), show μ 300 31 = 319 from h1 (300, 31, 319) (by decide +kernel), show μ 300 34 = 320 from h1 (300, 34, 320) (by decide +kernel), show μ 300 35 = 321 from h1 (300, 35, 321) (by decide +kernel), show μ 300 36 = 322 from h1 (300, 36, 322) (by decide +kernel), show μ 300 37 = 323 from h1 (300, 37, 323) (by decide +kernel), show μ 300 38 = 324 from h1 (300, 38, 324) (by decide +kernel), show μ 300 39 = 325 from h1 (300, 39, 325) (by decide +kernel), show μ 300 40 = 326 from h1 (300, 40, 326) (by decide +kernel), show μ 300 41 = 327 from h1 (300, 41, 327) (by decide +kernel), show μ 300 42 = 328 from h1 (300, 42, 328) (by decide +kernel), show μ 300 43 = 329 from h1 (300, 43, 329) (by decide +kernel), show μ 300 44 = 330 from h1 (300, 44, 330) (by decide +kernel), show μ 300 46 = 331 from h1 (300, 46, 331) (by decide +kernel), show μ 300 47 = 332 from h1 (300, 47, 332) (by decide +kernel), show μ 300 48 = 333 from h1 (300, 48, 333) (by decide +kernel), show μ 300 49 = 334 from h1 (300, 49, 334) (by decide +kernel), show μ 300 50 = 335 from h1 (300, 50, 335) (by decide +kernel), show μ 300 52 = 336 from h1 (300, 52, 336) (by decide +kernel), show μ 300 53 = 337 from h1 (300, 53, 337) (by decide +kernel)]; exact seE_rf _), ?_⟩
  refine List.forall_mem_cons.mpr ⟨(by rw [lyD_301, ly_301]; exact seE_rf _), ?_⟩
  refine List.forall_mem_cons.mpr ⟨(by rw [lyD_302, ly_302]; exact seE_rf _), ?_⟩
  refine List.forall_mem_cons.mpr ⟨(by rw [lyD_303, ly_303]; exact seE_rf _), ?_⟩
  refine List.forall_mem_cons.mpr ⟨(by rw [lyD_304, ly_304]; exact seE_rf _), ?_⟩
  refine List.forall_mem_cons.mpr ⟨(by rw [lyD_305, ly_305]; exact seE_rf _), ?_⟩
  refine List.forall_mem_cons.mpr ⟨(by rw [lyD_306, ly_306]; exact seE_rf _), ?_⟩
  refine List.forall_mem_cons.mpr ⟨(by rw [lyD_307, ly_307]; exact seE_rf _), ?_⟩
  refine List.forall_mem_cons.mpr ⟨(by rw [lyD_308, ly_308]; exact seE_rf _), ?_⟩
  refine List.forall_mem_cons.mpr ⟨(by rw [lyD_309, ly_309]; exact seE_rf _), ?_⟩
  refine List.forall_mem_cons.mpr ⟨(by rw [lyD_310, ly_310]; exact seE_rf _), ?_⟩
  refine List.forall_mem_cons.mpr ⟨(by rw [lyD_311, ly_311]; exact seE_rf _), ?_⟩
  refine List.forall_mem_cons.mpr ⟨(by rw [lyD_312, ly_312]; exact seE_rf _), ?_⟩
  refine List.forall_mem_cons.mpr ⟨(by rw [lyD_313, ly_313]; exact seE_rf _), ?_⟩
  refine List.forall_mem_cons.mpr ⟨(by rw [lyD_314, ly_314]; exact seE_rf _), ?_⟩
  refine List.forall_mem_cons.mpr ⟨(by rw [lyD_315, ly_315]; exact seE_rf _), ?_⟩
  refine List.forall_mem_cons.mpr ⟨(by rw [lyD_316, ly_316]; exact seE_rf _), ?_⟩
  refine List.forall_mem_cons.mpr ⟨(by rw [lyD_317, ly_317]; exact seE_rf _), ?_⟩
  refine List.forall_mem_cons.mpr ⟨(by rw [lyD_318, ly_318]; exact seE_rf _), ?_⟩
  refine List.forall_mem_cons.mpr ⟨(by rw [lyD_319, ly_319]; exact seE_rf _), ?_⟩
  refine List.forall_mem_cons.mpr ⟨(by rw [lyD_320, ly_320]; exact seE_rf _), ?_⟩
  refine List.forall_mem_cons.mpr ⟨(by rw [lyD_321, ly_321]; exact seE_rf _), ?_⟩
  refine List.forall_mem_cons.mpr ⟨(by rw [lyD_322, ly_322]; exact seE_rf _), ?_⟩
  refine List.forall_mem_cons.mpr ⟨(by rw [lyD_323, ly_323]; exact seE_rf _), ?_⟩
  refine List.forall_mem_cons.mpr ⟨(by rw [lyD_324, ly_324]; exact seE_rf _), ?_⟩
  refine List.forall_mem_cons.mpr ⟨(by rw [lyD_325, ly_325]; exact seE_rf _), ?_⟩
  refine List.forall_mem_cons.mpr ⟨(by rw [lyD_326, ly_326]; exact seE_rf _), ?_⟩
  refine List.forall_mem_cons.mpr ⟨(by rw [lyD_327, ly_327]; exact seE_rf _), ?_⟩
  refine List.forall_mem_cons.mpr ⟨(by rw [lyD_328, ly_328]; exact seE_rf _), ?_⟩
  refine List.forall_mem_cons.mpr ⟨(by rw [lyD_329, ly_329]; exact seE_rf _), ?_⟩
  refine List.forall_mem_cons.mpr ⟨(by rw [lyD_330, ly_330]; exact seE_rf _), ?_⟩
  refine List.forall_mem_cons.mpr ⟨(by rw [lyD_331, ly_331]; exact seE_rf _), ?_⟩
  refine List.forall_mem_cons.mpr ⟨(by rw [lyD_332, ly_332]; exact seE_rf _), ?_⟩
  refine List.forall_mem_cons.mpr ⟨(by rw [lyD_333, ly_333]; exact seE_rf _), ?_⟩
  refine List.forall_mem_cons.mpr ⟨(by rw [lyD_334, ly_334]; exact seE_rf _), ?_⟩
  refine List.forall_mem_cons.mpr ⟨(by rw [lyD_335, ly_335]; exact seE_rf _), ?_⟩
  refine List.forall_mem_cons.mpr ⟨(by rw [lyD_336, ly_336]; exact seE_rf _), ?_⟩
  refine List.forall_mem_cons.mpr ⟨(by rw [lyD_337, ly_337]; exact seE_R (fun j hj => by rw [h4 j hj])), ?_⟩
  refine List.forall_mem_cons.mpr ⟨(by rw [lyD_338, ly_338]; exact seE_rf _), ?_⟩
  refine List.forall_mem_cons.mpr ⟨(by rw [lyD_339, ly_339]; exact seE_rf _), ?_⟩
  refine List.forall_mem_cons.mpr ⟨(by rw [lyD_340, ly_340]; exact seE_rf _), ?_⟩
  refine List.forall_mem_cons.mpr ⟨(by rw [lyD_341, ly_341]; exact seE_rf _), ?_⟩
  refine List.forall_mem_cons.mpr ⟨(by rw [lyD_342, ly_342]; exact seE_rf _), ?_⟩
  refine List.forall_mem_cons.mpr ⟨(by rw [lyD_343, ly_343]; exact seE_rf _), ?_⟩
  refine List.forall_mem_cons.mpr ⟨(by rw [lyD_344, ly_344]; exact seE_rf _), ?_⟩
  refine List.forall_mem_cons.mpr ⟨(by rw [lyD_345, ly_345]; exact seE_rf _), ?_⟩
  refine List.forall_mem_cons.mpr ⟨(by rw [lyD_346, ly_346]; exact seE_rf _), ?_⟩
  refine List.forall_mem_cons.mpr ⟨(by rw [lyD_347, ly_347]; exact seE_rf _), ?_⟩
  refine List.forall_mem_cons.mpr ⟨(by rw [lyD_348, ly_348]; exact seE_rf _), ?_⟩
  refine List.forall_mem_cons.mpr ⟨(by rw [lyD_349, ly_349]; exact seE_rf _), ?_⟩
  refine List.forall_mem_cons.mpr ⟨(by rw [lyD_350, ly_350]; exact seE_rf _), ?_⟩
  refine List.forall_mem_cons.mpr ⟨(by rw [lyD_351, ly_351]; exact seE_rf _), ?_⟩
  refine List.forall_mem_cons.mpr ⟨(by rw [lyD_352, ly_352]; exact seE_rf _), ?_⟩
  refine List.forall_mem_cons.mpr ⟨(by rw [lyD_353, ly_353]; exact seE_rf _), ?_⟩
  refine List.forall_mem_cons.mpr ⟨(by rw [lyD_354, ly_354]; exact seE_rf _), ?_⟩
  refine List.forall_mem_cons.mpr ⟨(by rw [lyD_355, ly_355]; exact seE_rf _), ?_⟩
  refine List.forall_mem_cons.mpr ⟨(by rw [lyD_356, ly_356]; exact seE_rf _), ?_⟩
  refine List.forall_mem_cons.mpr ⟨(by rw [lyD_357, ly_357]; exact seE_rf _), ?_⟩
  refine List.forall_mem_cons.mpr ⟨(by rw [lyD_358, ly_358]; exact seE_rf _), ?_⟩
  refine List.forall_mem_cons.mpr ⟨(by rw [lyD_359, ly_359]; exact seE_rf _), ?_⟩
  refine List.forall_mem_cons.mpr ⟨(by rw [lyD_360, ly_360]; exact seE_rf _), ?_⟩
  refine List.forall_mem_cons.mpr ⟨(by rw [lyD_361, ly_361]; exact seE_rf _), ?_⟩
  refine List.forall_mem_cons.mpr ⟨(by rw [lyD_362, ly_362]; exact seE_rf _), ?_⟩
  refine List.forall_mem_cons.mpr ⟨(by rw [lyD_363, ly_363]; exact seE_rf _), ?_⟩
  refine List.forall_mem_cons.mpr ⟨(by rw [lyD_364, ly_364]; exact seE_rf _), ?_⟩
  refine List.forall_mem_cons.mpr ⟨(by rw [lyD_365, ly_365]; exact seE_rf _), ?_⟩
  refine List.forall_mem_cons.mpr ⟨(by rw [lyD_366, ly_366]; exact seE_rf _), ?_⟩
  refine List.forall_mem_cons.mpr ⟨(by rw [lyD_367, ly_367]; exact seE_rf _), ?_⟩
  refine List.forall_mem_cons.mpr ⟨(by rw [lyD_368, ly_368]; exact seE_rf _), ?_⟩
  refine List.forall_mem_cons.mpr ⟨(by rw [lyD_369, ly_369]; exact seE_rf _), ?_⟩
  refine List.forall_mem_cons.mpr ⟨(by rw [lyD_370, ly_370]; exact seE_rf _), ?_⟩
  refine List.forall_mem_cons.mpr ⟨(by rw [lyD_371, ly_371]; exact seE_rf _), ?_⟩
  refine List.forall_mem_cons.mpr ⟨(by rw [lyD_372, ly_372]; exact seE_rf _), ?_⟩
  refine List.forall_mem_cons.mpr ⟨(by rw [lyD_373, ly_373]; exact seE_rf _), ?_⟩
  refine List.forall_mem_cons.mpr ⟨(by rw [lyD_374, ly_374]; exact seE_rf _), ?_⟩
  refine List.forall_mem_cons.mpr ⟨(by rw [lyD_375, ly_375]; exact seE_rf _), ?_⟩
  refine List.forall_mem_cons.mpr ⟨(by rw [lyD_376, ly_376]; exact seE_rf _), ?_⟩
  refine List.forall_mem_cons.mpr ⟨(by rw [lyD_377, ly_377]; exact seE_rf _), ?_⟩
  exact fun o h => absurd h List.not_mem_nil
section START
variable {p : Program} {l : Launch} {e : Env} {s : State} {m : MethodId} {below : List Frame} {meth : Method} {c : Code} {D : va_G} {A : Nat → Prop} {cy : Nat → ClassId} {b L : Nat} {xs : Nat → Int32}
theorem toV {R : Room} {args : Array Value} {cells slots nL pc : Nat} {Q : State → Prop} {ad : Nat → Nat} {μ : Mem} {lv : LV} {st : List AV} (hw : wired μ) (k : V p l e R s m args below meth c cells slots Q D A (lay cy) allL ad nL μ pc lv st) : V0 p l e R s m args below meth c cells slots Q D A (layD cy) allL ad nL μ pc lv st := by
  intro ho hc H locs hP hD hS ls hl
  have hg : gho allL μ := by
    refine ⟨fun o h => bas_allL o ?_ h, fun k hk => ?_, fun k hk => ?_⟩
    · unfold bas at h
      simp only [Bool.or_eq_true, Bool.and_eq_true, Nat.blt_eq, Nat.ble_eq] at h
      omega
    · rw [hw.2.2.2.2.1] at hk; omega
    · rw [hw.2.2.2.2.2] at hk; omega
  refine k ho hg H locs ?_ ?_ hS ls hl
  · intro n q hq
    unfold wld at hq
    rw [List.getElem?_map] at hq
    cases hn : allL[n]? with
    | none => rw [hn] at hq; cases hq
    | some o =>
      rw [hn] at hq
      cases hq
      refine se_D hw o (List.mem_of_getElem? hn) D vwCl (ad o) H (hP n (ad o, layD cy ad o (μ o)) ?_)
      unfold wld
      rw [List.getElem?_map, hn]
      rfl
  · have key : ∀ (n : Nat) (q : Nat × va_E), (wld (lay cy) allL ad μ)[n]? = some q → ∃ q', (wld (layD cy) allL ad μ)[n]? = some q' ∧ q'.1 = q.1 := by
      intro n q hq
      unfold wld at hq ⊢
      rw [List.getElem?_map] at hq ⊢
      cases hn : allL[n]? with
      | none => rw [hn] at hq; cases hq
      | some o =>
        rw [hn] at hq
        cases hq
        exact ⟨_, rfl, rfl⟩
    refine ⟨fun i j x y hx hy he => ?_, fun n q hq => ?_⟩
    · obtain ⟨x', h1, h2⟩ := key i x hx
      obtain ⟨y', h3, h4⟩ := key j y hy
      exact hD.1 i j x' y' h1 h3 (by rw [h2, h4, he])
    · obtain ⟨x', h1, h2⟩ := key n q hq
      rw [← h2]
      exact hD.2 n x' h1
def mem0 : Mem := fun _ _ => 0
/-- the memory after both constructors -/
def initR : Option (Int × Mem) := bd (f_X10_init (setr mem0 0 (dfl 0))) fun _ μ => f_X11_init (setr μ 300 (dfl 300))
def initW : Bool := match initR with | some q => wiredB q.2 | none => false
set_option maxRecDepth 100000 in
theorem initW_ok : initW = true := by decide +kernel
theorem init_ex : ∃ (ra : Int) (μa : Mem) (rb : Int) (μb : Mem), f_X10_init (setr mem0 0 (dfl 0)) = some (ra, μa) ∧ f_X11_init (setr μa 300 (dfl 300)) = some (rb, μb) ∧ wired μb ∧ initR = some (rb, μb) := by
  have hw0 := initW_ok
  unfold initW at hw0
  generalize hr : initR = o at hw0
  cases o with
  | none => cases hw0
  | some q =>
    obtain ⟨rb, μb⟩ := q
    have hr2 := hr
    unfold initR at hr2
    obtain ⟨ra, μa, h1, h2⟩ := of_bd hr2
    exact ⟨ra, μa, rb, μb, h1, h2, wired_of hw0, rfl⟩
theorem idsOK_all {μ : Mem} (hw : wired μ) : idsOK allL μ := by
  intro o
  constructor
  · exact fun h => Or.inl (allL_bas o h)
  · intro h
    rcases h with h | h | h
    · refine bas_allL o ?_ h
      unfold bas at h
      simp only [Bool.or_eq_true, Bool.and_eq_true, Nat.blt_eq, Nat.ble_eq] at h
      omega
    · rw [hw.2.2.2.2.1] at h; omega
    · rw [hw.2.2.2.2.2] at h; omega
set_option maxHeartbeats 4000000 in
set_option maxRecDepth 100000 in
theorem law_start {Inv : Mem → Prop} (hO : PureOK Inv) {μ0 μa μb : Mem} {ra rb : Int} (ha : f_X10_init (setr μ0 0 (dfl 0)) = some (ra, μa)) (hr : f_X11_init (setr μa 300 (dfl 300)) = some (rb, μb)) (hw : wired μb) (hIq : Inv μb) (C : Cx p s m #[Value.ref b] meth c D (tyl cy) A 4 cL_law RL (some .boolean)) (hAO : AO s) {ad : Nat → Nat} (hb : ad 1040 = b) (hCF : CF ad A s) (S : Scr s A b L xs) (hA : ∀ q, A q → s.heap.size ≤ q) : V0 p l e room_1 s m #[Value.ref b] below meth c 0 0 (lw_Z below #[Value.ref b] s) D A (layD cy) [] ad 4 μ0 0 [some (rf 1040), none, none, none] [] := by
  refine q_new C (ci := 10) (N := 8) in_X10 tyX10 tyX10_ok rfl tw_19 tw_20 tw_1 0 (fun ad => lyD_0 cy ad _) (fun ad j hj => by
    match j, hj with
    | 0, _ => rfl
    | 1, _ => rfl
    | 2, _ => rfl
    | 3, _ => rfl
    | 4, _ => rfl
    | 5, _ => rfl
    | 6, _ => rfl
    | 7, _ => rfl
    | k + 8, h => exact absurd h (by omega)) (ids1 := [0]) rfl (by decide) (by decide) (okL_mem (lv := [some (rf 1040), none, none, none]) (And.intro (fun _ => Or.inr (by decide)) trivial)) (by intro v hv; exact absurd hv List.not_mem_nil) (by decide) (by decide) (by decide) dL_law_0 (fun q0 μ0 hμ0 hcf0 => ?_)
  subst hμ0
  have hCF0 := hcf0 hCF
  refine q_dup C dL_law_3 ?_
  refine h_callIM C hCF0 (hAO) (by decide) (As := []) 0 (by decide) rfl (fun _ => by decide) (c_X10_init ha) ⟨by decide, by decide⟩ ⟨by decide, by decide⟩ tw_21 tw_23 tw_1 tw_22 rfl 0 (by decide) rfl (Nat.le_of_ble_eq_true rfl) dL_law_4 (okL_mem (lv := [some (rf 1040), none, none, none]) (And.intro (fun _ => Or.inr (Or.inr (by decide))) trivial)) (List.forall_mem_cons.mpr ⟨(fun _ => Or.inr (Or.inl (by decide))), fun _ h => absurd h List.not_mem_nil⟩) (fun ad1 hx1 hcf1 => ?_)
  have hCF1 := hcf1 hCF0
  refine q_astore_n C 1 rfl rfl (by decide) dL_law_7 ?_
  refine q_new C (ci := 11) (N := 54) in_X11 tyX11 tyX11_ok rfl tw_886 tw_887 tw_10 300 (fun ad => lyD_300 cy ad _) (fun ad j hj => by
    match j, hj with
    | 0, _ => rfl
    | 1, _ => rfl
    | 2, _ => rfl
    | 3, _ => rfl
    | 4, _ => rfl
    | 5, _ => rfl
    | 6, _ => rfl
    | 7, _ => rfl
    | 8, _ => rfl
    | 9, _ => rfl
    | 10, _ => rfl
    | 11, _ => rfl
    | 12, _ => rfl
    | 13, _ => rfl
    | 14, _ => rfl
    | 15, _ => rfl
    | 16, _ => rfl
    | 17, _ => rfl
    | 18, _ => rfl
    | 19, _ => rfl
    | 20, _ => rfl
    | 21, _ => rfl
    | 22, _ => rfl
    | 23, _ => rfl
    | 24, _ => rfl
    | 25, _ => rfl
    | 26, _ => rfl
    | 27, _ => rfl
    | 28, _ => rfl
    | 29, _ => rfl
    | 30, _ => rfl
    | 31, _ => rfl
    | 32, _ => rfl
    | 33, _ => rfl
    | 34, _ => rfl
    | 35, _ => rfl
    | 36, _ => rfl
    | 37, _ => rfl
    | 38, _ => rfl
    | 39, _ => rfl
    | 40, _ => rfl
    | 41, _ => rfl
    | 42, _ => rfl
    | 43, _ => rfl
    | 44, _ => rfl
    | 45, _ => rfl
    | 46, _ => rfl
    | 47, _ => rfl
    | 48, _ => rfl
    | 49, _ => rfl
    | 50, _ => rfl
    | 51, _ => rfl
    | 52, _ => rfl
    | 53, _ => rfl
    | k + 54, h => exact absurd h (by omega)) (ids1 := [0, 1, 9, 10, 11, 12, 13, 2, 14, 15, 3, 16, 4, 17, 5, 18, 6, 19, 20, 7, 21, 22, 23, 40, 41, 42, 43, 44, 24, 25, 26, 27, 28, 29, 30, 31, 45, 46, 47, 48, 49, 8, 32, 33, 34, 35, 36, 37, 38, 39, 300]) rfl (by decide) (by decide) (okL_mem (lv := [some (rf 1040), some (rf 0), none, none]) (And.intro (fun _ => Or.inr (by decide)) (And.intro (fun _ => Or.inr (by decide)) trivial))) (by intro v hv; exact absurd hv List.not_mem_nil) (by decide) (by decide) (by decide) dL_law_8 (fun q300 μ300 hμ300 hcf300 => ?_)
  subst hμ300
  have hCF2 := hcf300 hCF1
  refine q_dup C dL_law_11 ?_
  refine h_callIM C hCF2 (hAO) (by decide) (As := []) 300 (by decide) rfl (fun _ => by decide) (c_X11_init hr) ⟨by decide, by decide⟩ ⟨by decide, by decide⟩ tw_888 tw_890 tw_10 tw_889 rfl 0 (by decide) rfl (Nat.le_of_ble_eq_true rfl) dL_law_12 (okL_mem (lv := [some (rf 1040), some (rf 0), none, none]) (And.intro (fun _ => Or.inr (Or.inr (by decide))) (And.intro (fun _ => Or.inr (Or.inl (by decide))) trivial))) (List.forall_mem_cons.mpr ⟨(fun _ => Or.inr (Or.inl (by decide))), fun _ h => absurd h List.not_mem_nil⟩) (fun ad2 hx2 hcf2 => ?_)
  have hCF3 := hcf2 hCF2
  refine q_astore_n C 2 rfl rfl (by decide) dL_law_15 ?_
  refine toV hw ?_
  refine r_iconst C dL_law_16 ?_
  refine r_istore_n C 3 rfl rfl (by decide) dL_law_17 ?_
  have hb3 : ad2 1040 = b := by
    rw [hx2.2 1040 (by decide), adu_ne (by decide), hx1.2 1040 (by decide), adu_ne (by decide)]
    exact hb
  exact law_loop hO C S hA 513 0 (by omega) 0 μb allL ad2 _ _ rfl (by omega) hIq (idsOK_all hw) hb3 hCF3 (by decide) (by decide)
/-- THE WHOLE, over what the pure side owes -/
theorem whole_open {Inv : Mem → Prop} (hO : PureOK Inv) (hI : ∀ q, initR = some q → Inv q.2) {p : Program} {e : Env} {s : State} {m : MethodId} {below : List Frame} {meth : Method} {c : Code} (l : Launch) {b L : Nat} {xs : Nat → Int32} (hL : L ≤ 3072) (C0 : lw_At p s m meth c b L xs) : W p l e room_1 s m #[Value.ref b] below meth c s.heap [] 0 0 (lw_Z below #[Value.ref b] s) (entryFrame m ([Value.ref b] : List Value).toArray 4) := by
  obtain ⟨hx, hcode, hret, hml, hown, hts, hX, hbl, hlk, hgv⟩ := C0
  have hWS : ∀ w ∈ WS, w.before #[Value.ref b] s = true := fun w hw => hts w (List.mem_filter.mp hw).1
  obtain ⟨D, cy, hK⟩ := st_K hWS hts
  obtain ⟨ad, hb, hCF⟩ := st_CF (A := fun q => s.heap.size ≤ q) b hts hgv (fun a h => Nat.not_le.mpr h)
  have C : Cx p s m #[Value.ref b] meth c D (tyl cy) (fun q => s.heap.size ≤ q) 4 cL_law RL (some .boolean) := ⟨hx, hcode, hml, hown, hWS, hK, fun q h => h, hret, hlk, st_NW hts⟩
  obtain ⟨ra, μa, rb, μb, ha, hr, hw, hi⟩ := init_ex
  have K := law_start (below := below) (l := l) (e := e) hO ha hr hw (hI _ hi) C (st_AO hts) hb hCF ⟨hX, hbl, Nat.not_le.mpr hbl, hL⟩ (fun q h => h)
  have ho0 : ok mem0 := fun o k => inR_lit rfl
  have hc0 : clo [] mem0 := fun a ha => absurd ha List.not_mem_nil
  have K2 := K ho0 hc0 s.heap [] (fun k q hq => by unfold wld at hq; cases hq) ⟨(fun i j x y hx => by unfold wld at hx; cases hx), (fun k q hq => by unfold wld at hq; cases hq)⟩ va_S.rf _ (ent_has ad [rf 1040] 4 (by decide))
  have he : ([rf 1040].map (vv ad)) = [Value.ref b] := by
    rw [List.map_cons, List.map_nil, vv_rf, rv_at (by decide), show ad (1040 : Int).toNat = b from hb]
  rw [he] at K2
  rw [lg_entry_eq]
  exact K2
end START
