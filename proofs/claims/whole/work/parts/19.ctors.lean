/-! CONSTRUCTORS -/
theorem ext0_adu {ids : List Nat} {ad u : Nat → Nat} {o q : Nat} (h : ext0 ids ad u) (ho : o ∉ ids) (h1 : o < 1000) : ext0 ids ad (adu u o q) := ⟨fun a ha => by
  have hne : a ≠ o := fun e => ho (e ▸ ha)
  exact (adu_ne hne).trans (h.1 a ha), fun a ha => (adu_ne (by omega)).trans (h.2 a ha)⟩
theorem ext0_trans {ids idk : List Nat} {ad u w : Nat → Nat} (h : ext0 ids ad u) (h1 : ext0 idk u w) (hs : ∀ a ∈ ids, a ∈ idk) : ext0 ids ad w := ⟨fun a ha => (h1.1 a (hs a ha)).trans (h.1 a ha), fun a ha => (h1.2 a ha).trans (h.2 a ha)⟩
theorem lyD_g40 {cy : Nat → ClassId} : ∀ i, i < 5 → ∀ (ad : Nat → Nat) (f : Nat → Int), layD cy ad (40 + i) f = ceN (cy 0) 6 f := by
  intro i hi ad f
  match i, hi with
  | 0, _ => rfl
  | 1, _ => rfl
  | 2, _ => rfl
  | 3, _ => rfl
  | 4, _ => rfl
  | k + 5, h => exact absurd h (by omega)
theorem rp_g40 : ∀ i, i < 5 → ∀ k, refpos (40 + i) k = false := by
  intro i hi k
  match i, hi with
  | 0, _ => rfl
  | 1, _ => rfl
  | 2, _ => rfl
  | 3, _ => rfl
  | 4, _ => rfl
  | k + 5, h => exact absurd h (by omega)
theorem lyD_g45 {cy : Nat → ClassId} : ∀ i, i < 5 → ∀ (ad : Nat → Nat) (f : Nat → Int), layD cy ad (45 + i) f = ceN (cy 0) 4 f := by
  intro i hi ad f
  match i, hi with
  | 0, _ => rfl
  | 1, _ => rfl
  | 2, _ => rfl
  | 3, _ => rfl
  | 4, _ => rfl
  | k + 5, h => exact absurd h (by omega)
theorem rp_g45 : ∀ i, i < 5 → ∀ k, refpos (45 + i) k = false := by
  intro i hi k
  match i, hi with
  | 0, _ => rfl
  | 1, _ => rfl
  | 2, _ => rfl
  | 3, _ => rfl
  | 4, _ => rfl
  | k + 5, h => exact absurd h (by omega)
theorem lyD_g338 {cy : Nat → ClassId} : ∀ i, i < 40 → ∀ (ad : Nat → Nat) (f : Nat → Int), layD cy ad (338 + i) f = ceN (cy 0) 40 f := by
  intro i hi ad f
  match i, hi with
  | 0, _ => rfl
  | 1, _ => rfl
  | 2, _ => rfl
  | 3, _ => rfl
  | 4, _ => rfl
  | 5, _ => rfl
  | 6, _ => rfl
  | 7, _ => rfl
  | 8, _ => rfl
  | 9, _ => rfl
  | 10, _ => rfl
  | 11, _ => rfl
  | 12, _ => rfl
  | 13, _ => rfl
  | 14, _ => rfl
  | 15, _ => rfl
  | 16, _ => rfl
  | 17, _ => rfl
  | 18, _ => rfl
  | 19, _ => rfl
  | 20, _ => rfl
  | 21, _ => rfl
  | 22, _ => rfl
  | 23, _ => rfl
  | 24, _ => rfl
  | 25, _ => rfl
  | 26, _ => rfl
  | 27, _ => rfl
  | 28, _ => rfl
  | 29, _ => rfl
  | 30, _ => rfl
  | 31, _ => rfl
  | 32, _ => rfl
  | 33, _ => rfl
  | 34, _ => rfl
  | 35, _ => rfl
  | 36, _ => rfl
  | 37, _ => rfl
  | 38, _ => rfl
  | 39, _ => rfl
  | k + 40, h => exact absurd h (by omega)
theorem rp_g338 : ∀ i, i < 40 → ∀ k, refpos (338 + i) k = false := by
  intro i hi k
  match i, hi with
  | 0, _ => rfl
  | 1, _ => rfl
  | 2, _ => rfl
  | 3, _ => rfl
  | 4, _ => rfl
  | 5, _ => rfl
  | 6, _ => rfl
  | 7, _ => rfl
  | 8, _ => rfl
  | 9, _ => rfl
  | 10, _ => rfl
  | 11, _ => rfl
  | 12, _ => rfl
  | 13, _ => rfl
  | 14, _ => rfl
  | 15, _ => rfl
  | 16, _ => rfl
  | 17, _ => rfl
  | 18, _ => rfl
  | 19, _ => rfl
  | 20, _ => rfl
  | 21, _ => rfl
  | 22, _ => rfl
  | 23, _ => rfl
  | 24, _ => rfl
  | 25, _ => rfl
  | 26, _ => rfl
  | 27, _ => rfl
  | 28, _ => rfl
  | 29, _ => rfl
  | 30, _ => rfl
  | 31, _ => rfl
  | 32, _ => rfl
  | 33, _ => rfl
  | 34, _ => rfl
  | 35, _ => rfl
  | 36, _ => rfl
  | 37, _ => rfl
  | 38, _ => rfl
  | 39, _ => rfl
  | k + 40, h => exact absurd h (by omega)
def f_X2_init (μ : Mem) : Option (Int × Mem) := lm (setr μ 9 (fun _ => 0)) fun μ1 => lm (up μ1 1 0 9) fun μ4 => lm (setr μ4 10 (fun _ => 0)) fun μ7 => lm (up μ7 1 1 10) fun μ10 => lm (setr μ10 11 (fun _ => 0)) fun μ13 => lm (up μ13 1 2 11) fun μ16 => lm (up μ16 1 3 0) fun μ19 => lm (setr μ19 12 (fun _ => 0)) fun μ22 => lm (up μ22 1 4 12) fun μ25 => lm (setr μ25 13 (fun _ => 0)) fun μ28 => lm (up μ28 1 5 13) fun μ31 => lm (up μ31 1 6 0) fun μ34 => some (0, μ34)
def f_X5_init (μ : Mem) : Option (Int × Mem) := lm (setr μ 14 (fun _ => 0)) fun μ1 => lm (up μ1 2 0 14) fun μ4 => lm (setr μ4 15 (fun _ => 0)) fun μ7 => lm (up μ7 2 1 15) fun μ10 => lm (up μ10 2 2 0) fun μ13 => lm (up μ13 2 3 0) fun μ16 => some (0, μ16)
def f_X9_init (μ : Mem) : Option (Int × Mem) := lm (setr μ 16 (fun _ => 0)) fun μ1 => lm (up μ1 3 0 16) fun μ4 => lm (up μ4 3 1 0) fun μ7 => some (0, μ7)
def f_X6_takeNumbersD_2 : Nat → Int → Mem → Option (Int × Mem)
  | 0, _, _ => none
  | n + 1, v2, μ => if μ 4 0 = 17 then if 9 ≤ v2 then (some (0, μ)) else (if 9 ≤ v2 then (some (0, μ)) else (if 0 ≤ v2 ∧ v2 < 9 then lm (up μ 17 v2.toNat (kWithout.getD v2.toNat 0)) fun μ5 => if inR (v2 + 1) then (f_X6_takeNumbersD_2 n (v2 + 1) μ5) else none else none)) else none
theorem f_X6_takeNumbersD_2_e (n : Nat) (v2 : Int) (μ : Mem) : f_X6_takeNumbersD_2 (n + 1) v2 μ = if μ 4 0 = 17 then if 9 ≤ v2 then (some (0, μ)) else (if 9 ≤ v2 then (some (0, μ)) else (if 0 ≤ v2 ∧ v2 < 9 then lm (up μ 17 v2.toNat (kWithout.getD v2.toNat 0)) fun μ5 => if inR (v2 + 1) then (f_X6_takeNumbersD_2 n (v2 + 1) μ5) else none else none)) else none := rfl
def f_X6_takeNumbersD (μ : Mem) : Option (Int × Mem) := (f_X6_takeNumbersD_2 64 0 μ)
def f_X6_init (μ : Mem) : Option (Int × Mem) := lm (setr μ 17 (fun _ => 0)) fun μ1 => lm (up μ1 4 0 17) fun μ4 => bd (f_X6_takeNumbersD μ4 ) fun r7 μ8 => some (0, μ8)
def f_X7_init (μ : Mem) : Option (Int × Mem) := lm (setr μ 18 (fun _ => 0)) fun μ1 => lm (up μ1 5 1 18) fun μ4 => lm (up μ4 5 2 0) fun μ7 => lm (up μ7 5 3 0) fun μ10 => lm (up μ10 5 4 0) fun μ13 => lm (up μ13 5 5 (-1)) fun μ16 => lm (up μ16 5 0 3) fun μ19 => some (0, μ19)
def f_X3_init (μ : Mem) : Option (Int × Mem) := lm (setr μ 19 (fun _ => -1)) fun μ1 => lm (up μ1 6 3 19) fun μ4 => lm (setr μ4 20 (fun _ => -1)) fun μ7 => lm (up μ7 6 4 20) fun μ10 => lm (up μ10 6 5 0) fun μ13 => lm (up μ13 6 6 0) fun μ16 => lm (up μ16 6 7 0) fun μ19 => lm (up μ19 6 8 0) fun μ22 => lm (up μ22 6 9 0) fun μ25 => lm (up μ25 6 10 0) fun μ28 => lm (up μ28 6 0 4) fun μ31 => lm (up μ31 6 1 1) fun μ34 => lm (up μ34 6 2 2) fun μ37 => some (0, μ37)
def f_X1_init (μ : Mem) : Option (Int × Mem) := lm (setr μ 21 (fun _ => -1)) fun μ1 => lm (up μ1 7 3 21) fun μ4 => lm (setr μ4 22 (fun _ => 0)) fun μ7 => lm (up μ7 7 4 22) fun μ10 => lm (up μ10 7 5 0) fun μ13 => lm (setg μ13 23 40 5) fun μ16 => lm (up μ16 7 6 23) fun μ19 => lm (setr μ19 24 (fun _ => 0)) fun μ22 => lm (up μ22 7 7 24) fun μ25 => lm (setr μ25 25 (fun _ => 0)) fun μ28 => lm (up μ28 7 8 25) fun μ31 => lm (setr μ31 26 (fun _ => 0)) fun μ34 => lm (up μ34 7 9 26) fun μ37 => lm (setr μ37 27 (fun _ => 0)) fun μ40 => lm (up μ40 7 10 27) fun μ43 => lm (setr μ43 28 (fun _ => 0)) fun μ46 => lm (up μ46 7 11 28) fun μ49 => lm (setr μ49 29 (fun _ => 0)) fun μ52 => lm (up μ52 7 12 29) fun μ55 => lm (setr μ55 30 (fun _ => 0)) fun μ58 => lm (up μ58 7 13 30) fun μ61 => lm (up μ61 7 14 0) fun μ64 => lm (up μ64 7 15 0) fun μ67 => lm (setg μ67 31 45 5) fun μ70 => lm (up μ70 7 16 31) fun μ73 => lm (up μ73 7 17 0) fun μ76 => lm (up μ76 7 0 6) fun μ79 => lm (up μ79 7 1 4) fun μ82 => lm (up μ82 7 2 1) fun μ85 => some (0, μ85)
def f_X8_init (μ : Mem) : Option (Int × Mem) := lm (setr μ 32 (fun _ => 0)) fun μ1 => lm (up μ1 8 1 32) fun μ4 => lm (setr μ4 33 (fun _ => 0)) fun μ7 => lm (up μ7 8 2 33) fun μ10 => lm (setr μ10 34 (fun _ => 0)) fun μ13 => lm (up μ13 8 3 34) fun μ16 => lm (setr μ16 35 (fun _ => 0)) fun μ19 => lm (up μ19 8 4 35) fun μ22 => lm (up μ22 8 5 0) fun μ25 => lm (up μ25 8 6 0) fun μ28 => lm (up μ28 8 7 0) fun μ31 => lm (setr μ31 36 (fun _ => 0)) fun μ34 => lm (up μ34 8 8 36) fun μ37 => lm (setr μ37 37 (fun _ => 0)) fun μ40 => lm (up μ40 8 9 37) fun μ43 => lm (up μ43 8 10 0) fun μ46 => lm (setr μ46 38 (fun _ => 0)) fun μ49 => lm (up μ49 8 11 38) fun μ52 => lm (setr μ52 39 (fun _ => 0)) fun μ55 => lm (up μ55 8 12 39) fun μ58 => lm (up μ58 8 0 6) fun μ61 => some (0, μ61)
def f_X10_init (μ : Mem) : Option (Int × Mem) := lm (setr μ 1 (dfl 1)) fun μ1 => bd (f_X2_init μ1) fun r4 μ5 => lm (up μ5 0 0 1) fun μ8 => lm (setr μ8 2 (dfl 2)) fun μ11 => bd (f_X5_init μ11) fun r14 μ15 => lm (up μ15 0 1 2) fun μ18 => lm (setr μ18 3 (dfl 3)) fun μ21 => bd (f_X9_init μ21) fun r24 μ25 => lm (up μ25 0 2 3) fun μ28 => lm (setr μ28 4 (dfl 4)) fun μ31 => bd (f_X6_init μ31) fun r34 μ35 => lm (up μ35 0 3 4) fun μ38 => lm (setr μ38 5 (dfl 5)) fun μ41 => if μ41 0 2 = 3 then bd (f_X7_init μ41) fun r45 μ46 => lm (up μ46 0 4 5) fun μ49 => lm (setr μ49 6 (dfl 6)) fun μ52 => if μ52 0 3 = 4 then if μ52 0 0 = 1 then if μ52 0 1 = 2 then bd (f_X3_init μ52) fun r58 μ59 => lm (up μ59 0 5 6) fun μ62 => lm (setr μ62 7 (dfl 7)) fun μ65 => if μ65 0 5 = 6 then if μ65 0 3 = 4 then if μ65 0 0 = 1 then bd (f_X1_init μ65) fun r71 μ72 => lm (up μ72 0 6 7) fun μ75 => lm (setr μ75 8 (dfl 8)) fun μ78 => if μ78 0 5 = 6 then bd (f_X8_init μ78) fun r82 μ83 => lm (up μ83 0 7 8) fun μ86 => some (0, μ86) else none else none else none else none else none else none else none else none
def f_X11_withoutD (μ : Mem) (a1 : Int) : Option (Int × Mem) := if a1 = 4 then (some (2, μ)) else if a1 = 5 then (some (3, μ)) else if a1 = 6 then (some (4, μ)) else if a1 = 7 then (some (200, μ)) else if a1 = 8 then (some (10, μ)) else (some (5, μ))
def f_X11_init_323 : Nat → Int → Mem → Option (Int × Mem)
  | 0, _, _ => none
  | n + 1, v1, μ => if 6 ≤ v1 then (some (0, μ)) else (if μ 300 6 = 302 then if 0 ≤ v1 ∧ v1 < 6 then lm (up μ 302 v1.toNat (-1)) fun μ4 => if inR (v1 + 1) then (f_X11_init_323 n (v1 + 1) μ4) else none else none else none)
theorem f_X11_init_323_e (n : Nat) (v1 : Int) (μ : Mem) : f_X11_init_323 (n + 1) v1 μ = if 6 ≤ v1 then (some (0, μ)) else (if μ 300 6 = 302 then if 0 ≤ v1 ∧ v1 < 6 then lm (up μ 302 v1.toNat (-1)) fun μ4 => if inR (v1 + 1) then (f_X11_init_323 n (v1 + 1) μ4) else none else none else none) := rfl
def f_X11_init_299 : Nat → Int → Mem → Option (Int × Mem)
  | 0, _, _ => none
  | n + 1, v1, μ => if 9 ≤ v1 then ((f_X11_init_323 64 0 μ)) else (if μ 300 23 = 312 then bd (f_X11_withoutD μ v1) fun r3 μ4 => if 0 ≤ v1 ∧ v1 < 9 then lm (up μ4 312 v1.toNat r3) fun μ9 => if inR (v1 + 1) then (f_X11_init_299 n (v1 + 1) μ9) else none else none else none)
theorem f_X11_init_299_e (n : Nat) (v1 : Int) (μ : Mem) : f_X11_init_299 (n + 1) v1 μ = if 9 ≤ v1 then ((f_X11_init_323 64 0 μ)) else (if μ 300 23 = 312 then bd (f_X11_withoutD μ v1) fun r3 μ4 => if 0 ≤ v1 ∧ v1 < 9 then lm (up μ4 312 v1.toNat r3) fun μ9 => if inR (v1 + 1) then (f_X11_init_299 n (v1 + 1) μ9) else none else none else none) := rfl
def f_X11_init (μ : Mem) : Option (Int × Mem) := lm (setr μ 301 (fun _ => 0)) fun μ1 => lm (up μ1 300 5 301) fun μ4 => lm (setr μ4 302 (fun _ => 0)) fun μ7 => lm (up μ7 300 6 302) fun μ10 => lm (setr μ10 303 (fun _ => 0)) fun μ13 => lm (up μ13 300 7 303) fun μ16 => lm (setr μ16 304 (fun _ => 0)) fun μ19 => lm (up μ19 300 8 304) fun μ22 => lm (setr μ22 305 (fun _ => 0)) fun μ25 => lm (up μ25 300 9 305) fun μ28 => lm (setr μ28 306 (fun _ => 0)) fun μ31 => lm (up μ31 300 10 306) fun μ34 => lm (setr μ34 307 (fun _ => 0)) fun μ37 => lm (up μ37 300 11 307) fun μ40 => lm (setr μ40 308 (fun _ => 0)) fun μ43 => lm (up μ43 300 12 308) fun μ46 => lm (setr μ46 309 (fun _ => 0)) fun μ49 => lm (up μ49 300 13 309) fun μ52 => lm (setr μ52 310 (fun _ => 0)) fun μ55 => lm (up μ55 300 14 310) fun μ58 => lm (setr μ58 311 (fun _ => 0)) fun μ61 => lm (up μ61 300 18 311) fun μ64 => lm (setr μ64 312 (fun _ => 0)) fun μ67 => lm (up μ67 300 23 312) fun μ70 => lm (setr μ70 313 (fun _ => 0)) fun μ73 => lm (up μ73 300 24 313) fun μ76 => lm (setr μ76 314 (fun _ => 0)) fun μ79 => lm (up μ79 300 25 314) fun μ82 => lm (setr μ82 315 (fun _ => 0)) fun μ85 => lm (up μ85 300 27 315) fun μ88 => lm (setr μ88 316 (fun _ => 0)) fun μ91 => lm (up μ91 300 28 316) fun μ94 => lm (setr μ94 317 (fun _ => 0)) fun μ97 => lm (up μ97 300 29 317) fun μ100 => lm (setr μ100 318 (fun _ => 0)) fun μ103 => lm (up μ103 300 30 318) fun μ106 => lm (setr μ106 319 (fun _ => 0)) fun μ109 => lm (up μ109 300 31 319) fun μ112 => lm (setr μ112 320 (fun _ => 0)) fun μ115 => lm (up μ115 300 34 320) fun μ118 => lm (setr μ118 321 (fun _ => 0)) fun μ121 => lm (up μ121 300 35 321) fun μ124 => lm (setr μ124 322 (fun _ => 0)) fun μ127 => lm (up μ127 300 36 322) fun μ130 => lm (setr μ130 323 (fun _ => 0)) fun μ133 => lm (up μ133 300 37 323) fun μ136 => lm (setr μ136 324 (fun _ => 0)) fun μ139 => lm (up μ139 300 38 324) fun μ142 => lm (setr μ142 325 (fun _ => 0)) fun μ145 => lm (up μ145 300 39 325) fun μ148 => lm (setr μ148 326 (fun _ => 0)) fun μ151 => lm (up μ151 300 40 326) fun μ154 => lm (setr μ154 327 (fun _ => 0)) fun μ157 => lm (up μ157 300 41 327) fun μ160 => lm (setr μ160 328 (fun _ => 0)) fun μ163 => lm (up μ163 300 42 328) fun μ166 => lm (setr μ166 329 (fun _ => 0)) fun μ169 => lm (up μ169 300 43 329) fun μ172 => lm (setr μ172 330 (fun _ => 0)) fun μ175 => lm (up μ175 300 44 330) fun μ178 => lm (setr μ178 331 (fun _ => 0)) fun μ181 => lm (up μ181 300 46 331) fun μ184 => lm (setr μ184 332 (fun _ => 0)) fun μ187 => lm (up μ187 300 47 332) fun μ190 => lm (setr μ190 333 (fun _ => 0)) fun μ193 => lm (up μ193 300 48 333) fun μ196 => lm (setr μ196 334 (fun _ => 0)) fun μ199 => lm (up μ199 300 49 334) fun μ202 => lm (setr μ202 335 (fun _ => 0)) fun μ205 => lm (up μ205 300 50 335) fun μ208 => lm (setr μ208 336 (fun _ => 0)) fun μ211 => lm (up μ211 300 52 336) fun μ214 => lm (setg μ214 337 338 40) fun μ217 => lm (up μ217 300 53 337) fun μ220 => (f_X11_init_299 64 0 μ220)
set_option maxHeartbeats 4000000 in
set_option maxRecDepth 100000 in
theorem c_X2_init {l : Launch} {D : va_G} {cy : Nat → ClassId} {ad : Nat → Nat} {μ μ1 : Mem} {r : Int} (hf : f_X2_init μ = some (r, μ1)) : K0N l D (tyl cy) (layD cy) [0, 1] ad 2 5 200 yX2_init cX2_init 1 [rf 1] μ [0, 1, 9, 10, 11, 12, 13] μ1 := by
  refine K0N.of (by decide) (Nat.le_of_ble_eq_true rfl) ?_
  intro p e s m args below meth c A C hCF hAO hmn
  unfold f_X2_init at hf
  have hx : ext0 [0, 1] ad ad := ⟨fun _ _ => rfl, fun _ _ => rfl⟩
  refine V0_in (fun ho0 _ => ?_)
  refine q_aload_n C 0 rfl rfl dX2_init_0 ?_
  refine q_objI C (by decide) tw_32 tw_25 tw_26 (by decide) (Nat.le_of_ble_eq_true rfl) dX2_init_1 ?_
  refine q_aload_n C 0 rfl rfl dX2_init_4 ?_
  refine q_bipush C dX2_init_5 rfl ?_
  refine q_newa C (atype := .int) (ty := .int) 0 rfl tw_56 rfl (fun _ h => h) 40 rfl (by decide) (fun _ => rfl) (by decide) 9 (fun ad f => lyD_9 cy ad f) (fun _ => rfl) (ids1 := [0, 1, 9]) rfl (by decide) (by decide) (okL_mem (lv := [some (rf 1)]) (And.intro (fun _ => Or.inr (by decide)) trivial)) (List.forall_mem_cons.mpr ⟨(fun _ => Or.inr (by decide)), fun _ h => absurd h List.not_mem_nil⟩) (by decide) (by decide) (by decide) dX2_init_7 (fun q μ1 hμ3 hcf => ?_)
  replace hf := of_lm hf hμ3
  have hCF := hcf hCF
  have hx := ext0_adu (q := q) hx (by decide : 9 ∉ [0, 1]) (by decide)
  refine V0_in (fun ho2 _ => ?_)
  refine q_putR C hmn 1 (by decide) rfl (fun _ => by decide) (lyD_1 cy _ _) 0 (lyD_1 cy _ _) rfl (Nat.le_of_ble_eq_true rfl) (by decide) (by decide) (inR_lit rfl) rfl in_X2 tyX2 tyX2_ok nmX2 (by decide) tw_33 rfl rfl rfl (fun _ => rfl) (fun _ => rfl) dX2_init_9 (fun μ4 hμ6 => ?_)
  replace hf := of_lm hf hμ6
  refine V0_in (fun ho5 _ => ?_)
  refine q_aload_n C 0 rfl rfl dX2_init_12 ?_
  refine q_bipush C dX2_init_13 rfl ?_
  refine q_newa C (atype := .int) (ty := .int) 0 rfl tw_56 rfl (fun _ h => h) 40 rfl (by decide) (fun _ => rfl) (by decide) 10 (fun ad f => lyD_10 cy ad f) (fun _ => rfl) (ids1 := [0, 1, 9, 10]) rfl (by decide) (by decide) (okL_mem (lv := [some (rf 1)]) (And.intro (fun _ => Or.inr (by decide)) trivial)) (List.forall_mem_cons.mpr ⟨(fun _ => Or.inr (by decide)), fun _ h => absurd h List.not_mem_nil⟩) (by decide) (by decide) (by decide) dX2_init_15 (fun q μ7 hμ9 hcf => ?_)
  replace hf := of_lm hf hμ9
  have hCF := hcf hCF
  have hx := ext0_adu (q := q) hx (by decide : 10 ∉ [0, 1]) (by decide)
  refine V0_in (fun ho8 _ => ?_)
  refine q_putR C hmn 1 (by decide) rfl (fun _ => by decide) (lyD_1 cy _ _) 1 (lyD_1 cy _ _) rfl (Nat.le_of_ble_eq_true rfl) (by decide) (by decide) (inR_lit rfl) rfl in_X2 tyX2 tyX2_ok nmX2 (by decide) tw_34 rfl rfl rfl (fun _ => rfl) (fun _ => rfl) dX2_init_17 (fun μ10 hμ12 => ?_)
  replace hf := of_lm hf hμ12
  refine V0_in (fun ho11 _ => ?_)
  refine q_aload_n C 0 rfl rfl dX2_init_20 ?_
  refine q_bipush C dX2_init_21 rfl ?_
  refine q_newa C (atype := .int) (ty := .int) 0 rfl tw_56 rfl (fun _ h => h) 40 rfl (by decide) (fun _ => rfl) (by decide) 11 (fun ad f => lyD_11 cy ad f) (fun _ => rfl) (ids1 := [0, 1, 9, 10, 11]) rfl (by decide) (by decide) (okL_mem (lv := [some (rf 1)]) (And.intro (fun _ => Or.inr (by decide)) trivial)) (List.forall_mem_cons.mpr ⟨(fun _ => Or.inr (by decide)), fun _ h => absurd h List.not_mem_nil⟩) (by decide) (by decide) (by decide) dX2_init_23 (fun q μ13 hμ15 hcf => ?_)
  replace hf := of_lm hf hμ15
  have hCF := hcf hCF
  have hx := ext0_adu (q := q) hx (by decide : 11 ∉ [0, 1]) (by decide)
  refine V0_in (fun ho14 _ => ?_)
  refine q_putR C hmn 1 (by decide) rfl (fun _ => by decide) (lyD_1 cy _ _) 2 (lyD_1 cy _ _) rfl (Nat.le_of_ble_eq_true rfl) (by decide) (by decide) (inR_lit rfl) rfl in_X2 tyX2 tyX2_ok nmX2 (by decide) tw_35 rfl rfl rfl (fun _ => rfl) (fun _ => rfl) dX2_init_25 (fun μ16 hμ18 => ?_)
  replace hf := of_lm hf hμ18
  refine V0_in (fun ho17 _ => ?_)
  refine q_aload_n C 0 rfl rfl dX2_init_28 ?_
  refine q_iconst C dX2_init_29 ?_
  refine q_putf C 1 (by decide) rfl (fun _ => by decide) (lyD_1 cy _ _) 3 rfl (lyD_1 cy _ _) rfl (Nat.le_of_ble_eq_true rfl) (inR_lit rfl) rfl in_X2 tyX2 tyX2_ok nmX2 (by decide) tw_36 rfl rfl dX2_init_30 (fun μ19 hμ21 => ?_)
  replace hf := of_lm hf hμ21
  refine V0_in (fun ho20 _ => ?_)
  refine q_aload_n C 0 rfl rfl dX2_init_33 ?_
  refine q_bipush C dX2_init_34 rfl ?_
  refine q_newa C (atype := .int) (ty := .int) 0 rfl tw_56 rfl (fun _ h => h) 40 rfl (by decide) (fun _ => rfl) (by decide) 12 (fun ad f => lyD_12 cy ad f) (fun _ => rfl) (ids1 := [0, 1, 9, 10, 11, 12]) rfl (by decide) (by decide) (okL_mem (lv := [some (rf 1)]) (And.intro (fun _ => Or.inr (by decide)) trivial)) (List.forall_mem_cons.mpr ⟨(fun _ => Or.inr (by decide)), fun _ h => absurd h List.not_mem_nil⟩) (by decide) (by decide) (by decide) dX2_init_36 (fun q μ22 hμ24 hcf => ?_)
  replace hf := of_lm hf hμ24
  have hCF := hcf hCF
  have hx := ext0_adu (q := q) hx (by decide : 12 ∉ [0, 1]) (by decide)
  refine V0_in (fun ho23 _ => ?_)
  refine q_putR C hmn 1 (by decide) rfl (fun _ => by decide) (lyD_1 cy _ _) 4 (lyD_1 cy _ _) rfl (Nat.le_of_ble_eq_true rfl) (by decide) (by decide) (inR_lit rfl) rfl in_X2 tyX2 tyX2_ok nmX2 (by decide) tw_38 rfl rfl rfl (fun _ => rfl) (fun _ => rfl) dX2_init_38 (fun μ25 hμ27 => ?_)
  replace hf := of_lm hf hμ27
  refine V0_in (fun ho26 _ => ?_)
  refine q_aload_n C 0 rfl rfl dX2_init_41 ?_
  refine q_bipush C dX2_init_42 rfl ?_
  refine q_newa C (atype := .int) (ty := .int) 0 rfl tw_56 rfl (fun _ h => h) 40 rfl (by decide) (fun _ => rfl) (by decide) 13 (fun ad f => lyD_13 cy ad f) (fun _ => rfl) (ids1 := [0, 1, 9, 10, 11, 12, 13]) rfl (by decide) (by decide) (okL_mem (lv := [some (rf 1)]) (And.intro (fun _ => Or.inr (by decide)) trivial)) (List.forall_mem_cons.mpr ⟨(fun _ => Or.inr (by decide)), fun _ h => absurd h List.not_mem_nil⟩) (by decide) (by decide) (by decide) dX2_init_44 (fun q μ28 hμ30 hcf => ?_)
  replace hf := of_lm hf hμ30
  have hCF := hcf hCF
  have hx := ext0_adu (q := q) hx (by decide : 13 ∉ [0, 1]) (by decide)
  refine V0_in (fun ho29 _ => ?_)
  refine q_putR C hmn 1 (by decide) rfl (fun _ => by decide) (lyD_1 cy _ _) 5 (lyD_1 cy _ _) rfl (Nat.le_of_ble_eq_true rfl) (by decide) (by decide) (inR_lit rfl) rfl in_X2 tyX2 tyX2_ok nmX2 (by decide) tw_39 rfl rfl rfl (fun _ => rfl) (fun _ => rfl) dX2_init_46 (fun μ31 hμ33 => ?_)
  replace hf := of_lm hf hμ33
  refine V0_in (fun ho32 _ => ?_)
  refine q_aload_n C 0 rfl rfl dX2_init_49 ?_
  refine q_iconst C dX2_init_50 ?_
  refine q_putf C 1 (by decide) rfl (fun _ => by decide) (lyD_1 cy _ _) 6 rfl (lyD_1 cy _ _) rfl (Nat.le_of_ble_eq_true rfl) (inR_lit rfl) rfl in_X2 tyX2 tyX2_ok nmX2 (by decide) tw_40 rfl rfl dX2_init_51 (fun μ34 hμ36 => ?_)
  replace hf := of_lm hf hμ36
  refine V0_in (fun ho35 _ => ?_)
  obtain ⟨-, rfl⟩ := of_ret hf
  exact q_vretM C rfl hx (by decide) (by decide) dX2_init_54
set_option maxHeartbeats 4000000 in
set_option maxRecDepth 100000 in
theorem c_X5_init {l : Launch} {D : va_G} {cy : Nat → ClassId} {ad : Nat → Nat} {μ μ1 : Mem} {r : Int} (hf : f_X5_init μ = some (r, μ1)) : K0N l D (tyl cy) (layD cy) [0, 1, 9, 10, 11, 12, 13, 2] ad 2 2 80 yX5_init cX5_init 1 [rf 2] μ [0, 1, 9, 10, 11, 12, 13, 2, 14, 15] μ1 := by
  refine K0N.of (by decide) (Nat.le_of_ble_eq_true rfl) ?_
  intro p e s m args below meth c A C hCF hAO hmn
  unfold f_X5_init at hf
  have hx : ext0 [0, 1, 9, 10, 11, 12, 13, 2] ad ad := ⟨fun _ _ => rfl, fun _ _ => rfl⟩
  refine V0_in (fun ho0 _ => ?_)
  refine q_aload_n C 0 rfl rfl dX5_init_0 ?_
  refine q_objI C (by decide) tw_62 tw_25 tw_26 (by decide) (Nat.le_of_ble_eq_true rfl) dX5_init_1 ?_
  refine q_aload_n C 0 rfl rfl dX5_init_4 ?_
  refine q_bipush C dX5_init_5 rfl ?_
  refine q_newa C (atype := .int) (ty := .int) 0 rfl tw_56 rfl (fun _ h => h) 40 rfl (by decide) (fun _ => rfl) (by decide) 14 (fun ad f => lyD_14 cy ad f) (fun _ => rfl) (ids1 := [0, 1, 9, 10, 11, 12, 13, 2, 14]) rfl (by decide) (by decide) (okL_mem (lv := [some (rf 2)]) (And.intro (fun _ => Or.inr (by decide)) trivial)) (List.forall_mem_cons.mpr ⟨(fun _ => Or.inr (by decide)), fun _ h => absurd h List.not_mem_nil⟩) (by decide) (by decide) (by decide) dX5_init_7 (fun q μ1 hμ3 hcf => ?_)
  replace hf := of_lm hf hμ3
  have hCF := hcf hCF
  have hx := ext0_adu (q := q) hx (by decide : 14 ∉ [0, 1, 9, 10, 11, 12, 13, 2]) (by decide)
  refine V0_in (fun ho2 _ => ?_)
  refine q_putR C hmn 2 (by decide) rfl (fun _ => by decide) (lyD_2 cy _ _) 0 (lyD_2 cy _ _) rfl (Nat.le_of_ble_eq_true rfl) (by decide) (by decide) (inR_lit rfl) rfl in_X5 tyX5 tyX5_ok nmX5 (by decide) tw_63 rfl rfl rfl (fun _ => rfl) (fun _ => rfl) dX5_init_9 (fun μ4 hμ6 => ?_)
  replace hf := of_lm hf hμ6
  refine V0_in (fun ho5 _ => ?_)
  refine q_aload_n C 0 rfl rfl dX5_init_12 ?_
  refine q_bipush C dX5_init_13 rfl ?_
  refine q_newa C (atype := .int) (ty := .int) 0 rfl tw_56 rfl (fun _ h => h) 40 rfl (by decide) (fun _ => rfl) (by decide) 15 (fun ad f => lyD_15 cy ad f) (fun _ => rfl) (ids1 := [0, 1, 9, 10, 11, 12, 13, 2, 14, 15]) rfl (by decide) (by decide) (okL_mem (lv := [some (rf 2)]) (And.intro (fun _ => Or.inr (by decide)) trivial)) (List.forall_mem_cons.mpr ⟨(fun _ => Or.inr (by decide)), fun _ h => absurd h List.not_mem_nil⟩) (by decide) (by decide) (by decide) dX5_init_15 (fun q μ7 hμ9 hcf => ?_)
  replace hf := of_lm hf hμ9
  have hCF := hcf hCF
  have hx := ext0_adu (q := q) hx (by decide : 15 ∉ [0, 1, 9, 10, 11, 12, 13, 2]) (by decide)
  refine V0_in (fun ho8 _ => ?_)
  refine q_putR C hmn 2 (by decide) rfl (fun _ => by decide) (lyD_2 cy _ _) 1 (lyD_2 cy _ _) rfl (Nat.le_of_ble_eq_true rfl) (by decide) (by decide) (inR_lit rfl) rfl in_X5 tyX5 tyX5_ok nmX5 (by decide) tw_64 rfl rfl rfl (fun _ => rfl) (fun _ => rfl) dX5_init_17 (fun μ10 hμ12 => ?_)
  replace hf := of_lm hf hμ12
  refine V0_in (fun ho11 _ => ?_)
  refine q_aload_n C 0 rfl rfl dX5_init_20 ?_
  refine q_iconst C dX5_init_21 ?_
  refine q_putf C 2 (by decide) rfl (fun _ => by decide) (lyD_2 cy _ _) 2 rfl (lyD_2 cy _ _) rfl (Nat.le_of_ble_eq_true rfl) (inR_lit rfl) rfl in_X5 tyX5 tyX5_ok nmX5 (by decide) tw_65 rfl rfl dX5_init_22 (fun μ13 hμ15 => ?_)
  replace hf := of_lm hf hμ15
  refine V0_in (fun ho14 _ => ?_)
  refine q_aload_n C 0 rfl rfl dX5_init_25 ?_
  refine q_iconst C dX5_init_26 ?_
  refine q_putf C 2 (by decide) rfl (fun _ => by decide) (lyD_2 cy _ _) 3 rfl (lyD_2 cy _ _) rfl (Nat.le_of_ble_eq_true rfl) (inR_lit rfl) rfl in_X5 tyX5 tyX5_ok nmX5 (by decide) tw_67 rfl rfl dX5_init_27 (fun μ16 hμ18 => ?_)
  replace hf := of_lm hf hμ18
  refine V0_in (fun ho17 _ => ?_)
  obtain ⟨-, rfl⟩ := of_ret hf
  exact q_vretM C rfl hx (by decide) (by decide) dX5_init_30
set_option maxHeartbeats 4000000 in
set_option maxRecDepth 100000 in
theorem c_X9_init {l : Launch} {D : va_G} {cy : Nat → ClassId} {ad : Nat → Nat} {μ μ1 : Mem} {r : Int} (hf : f_X9_init μ = some (r, μ1)) : K0N l D (tyl cy) (layD cy) [0, 1, 9, 10, 11, 12, 13, 2, 14, 15, 3] ad 2 1 200 yX9_init cX9_init 1 [rf 3] μ [0, 1, 9, 10, 11, 12, 13, 2, 14, 15, 3, 16] μ1 := by
  refine K0N.of (by decide) (Nat.le_of_ble_eq_true rfl) ?_
  intro p e s m args below meth c A C hCF hAO hmn
  unfold f_X9_init at hf
  have hx : ext0 [0, 1, 9, 10, 11, 12, 13, 2, 14, 15, 3] ad ad := ⟨fun _ _ => rfl, fun _ _ => rfl⟩
  refine V0_in (fun ho0 _ => ?_)
  refine q_aload_n C 0 rfl rfl dX9_init_0 ?_
  refine q_objI C (by decide) tw_84 tw_25 tw_26 (by decide) (Nat.le_of_ble_eq_true rfl) dX9_init_1 ?_
  refine q_aload_n C 0 rfl rfl dX9_init_4 ?_
  refine q_sipush C dX9_init_5 rfl ?_
  refine q_newa C (atype := .byte) (ty := .byte) 1 rfl tw_94 rfl (fun _ h => h) 200 rfl (by decide) (fun _ => rfl) (by decide) 16 (fun ad f => lyD_16 cy ad f) (fun _ => rfl) (ids1 := [0, 1, 9, 10, 11, 12, 13, 2, 14, 15, 3, 16]) rfl (by decide) (by decide) (okL_mem (lv := [some (rf 3)]) (And.intro (fun _ => Or.inr (by decide)) trivial)) (List.forall_mem_cons.mpr ⟨(fun _ => Or.inr (by decide)), fun _ h => absurd h List.not_mem_nil⟩) (by decide) (by decide) (by decide) dX9_init_8 (fun q μ1 hμ3 hcf => ?_)
  replace hf := of_lm hf hμ3
  have hCF := hcf hCF
  have hx := ext0_adu (q := q) hx (by decide : 16 ∉ [0, 1, 9, 10, 11, 12, 13, 2, 14, 15, 3]) (by decide)
  refine V0_in (fun ho2 _ => ?_)
  refine q_putR C hmn 3 (by decide) rfl (fun _ => by decide) (lyD_3 cy _ _) 0 (lyD_3 cy _ _) rfl (Nat.le_of_ble_eq_true rfl) (by decide) (by decide) (inR_lit rfl) rfl in_X9 tyX9 tyX9_ok nmX9 (by decide) tw_85 rfl rfl rfl (fun _ => rfl) (fun _ => rfl) dX9_init_10 (fun μ4 hμ6 => ?_)
  replace hf := of_lm hf hμ6
  refine V0_in (fun ho5 _ => ?_)
  refine q_aload_n C 0 rfl rfl dX9_init_13 ?_
  refine q_iconst C dX9_init_14 ?_
  refine q_putf C 3 (by decide) rfl (fun _ => by decide) (lyD_3 cy _ _) 1 rfl (lyD_3 cy _ _) rfl (Nat.le_of_ble_eq_true rfl) (inR_lit rfl) rfl in_X9 tyX9 tyX9_ok nmX9 (by decide) tw_86 rfl rfl dX9_init_15 (fun μ7 hμ9 => ?_)
  replace hf := of_lm hf hμ9
  refine V0_in (fun ho8 _ => ?_)
  obtain ⟨-, rfl⟩ := of_ret hf
  exact q_vretM C rfl hx (by decide) (by decide) dX9_init_18
set_option maxHeartbeats 4000000 in
set_option maxRecDepth 100000 in
theorem w_X6_takeNumbersD_2 {p : Program} {l : Launch} {e : Env} {s : State} {m : MethodId} {args : Array Value} {below : List Frame} {meth : Method} {c : Code} {D : va_G} {cy : Nat → ClassId} {A : Nat → Prop} {ad : Nat → Nat} {r : Int} {μ1 : Mem} (C : Cx p s m args meth c D (tyl cy) A 3 cX6_takeNumbers yX6_takeNumbers.cls none) (hCF : CF ad A s) : ∀ n : Nat, ∀ (v2 : Int) (μ : Mem), inR v2 → f_X6_takeNumbersD_2 n v2 μ = some (r, μ1) → V0 p l e (rmk 2) s m args below meth c 0 0 (MQ below (aV0 D (tyl cy) (layD cy) [0, 1, 9, 10, 11, 12, 13, 2, 14, 15, 3, 16, 4, 17] ad A r μ1) args s 0 0 A) D A (layD cy) [0, 1, 9, 10, 11, 12, 13, 2, 14, 15, 3, 16, 4, 17] ad 3 μ 2 [some (rf 4), some (rf 1010), some (nu v2)] [] := by
  intro n
  induction n with
  | zero =>
    intro v2 μ hv2 hf
    cases hf
  | succ n ih =>
    intro v2 μ hv2 hf
    rw [f_X6_takeNumbersD_2_e] at hf
    refine V0_in (fun ho0 _ => ?_)
    refine q_iload_n C 2 rfl rfl dX6_takeNumbers_2 ?_
    refine q_aload_n C 0 rfl rfl dX6_takeNumbers_3 ?_
    obtain ⟨g1, hf⟩ := of_g hf
    refine q_getf C 4 (by decide) rfl (fun _ => by decide) (lyD_4 cy _ _) rfl in_X6 0 (by decide) tw_107 (v := rf 17) (show some (rf (μ 4 0)) = some (rf 17) from congrArg (fun z => some (rf z)) g1) dX6_takeNumbers_4 ?_
    refine q_alen C 17 (by decide) rfl (fun _ => by decide) 0 (cA := cy 0) (n := 9) (lyD_17 cy _ _) rfl dX6_takeNumbers_7 ?_
    refine q_icmp_ge C 32 hv2 (inR_lit rfl) rfl dX6_takeNumbers_8 (fun c2 => ?_) (fun c2 => ?_)
    · replace hf := if_t hf c2
      obtain ⟨-, rfl⟩ := of_ret hf
      exact q_vret C rfl dX6_takeNumbers_32
    · replace hf := if_f hf c2
      refine q_iload_n C 2 rfl rfl dX6_takeNumbers_11 ?_
      refine q_aload_n C 1 rfl rfl dX6_takeNumbers_12 ?_
      refine q_clW C hCF dX6_takeNumbers_13 ?_
      refine q_icmp_ge C 32 hv2 (inR_lit rfl) rfl dX6_takeNumbers_14 (fun c3 => ?_) (fun c3 => ?_)
      · replace hf := if_t hf c3
        obtain ⟨-, rfl⟩ := of_ret hf
        exact q_vret C rfl dX6_takeNumbers_32
      · replace hf := if_f hf c3
        refine q_aload_n C 0 rfl rfl dX6_takeNumbers_17 ?_
        refine q_getf C 4 (by decide) rfl (fun _ => by decide) (lyD_4 cy _ _) rfl in_X6 0 (by decide) tw_107 (v := rf 17) (show some (rf (μ 4 0)) = some (rf 17) from congrArg (fun z => some (rf z)) g1) dX6_takeNumbers_18 ?_
        refine q_iload_n C 2 rfl rfl dX6_takeNumbers_21 ?_
        refine q_aload_n C 1 rfl rfl dX6_takeNumbers_22 ?_
        refine q_iload_n C 2 rfl rfl dX6_takeNumbers_23 ?_
        obtain ⟨g4, hf⟩ := of_g hf
        refine q_caW C hCF g4 dX6_takeNumbers_24 ?_
        refine q_iast C 17 (by decide) rfl (fun _ => by decide) rfl 0 (cA := cy 0) (n := 9) (fun f => lyD_17 cy _ f) rfl g4 (by decide) (kWithout_r _) dX6_takeNumbers_25 (fun μ5 hμ7 => ?_)
        replace hf := of_lm hf hμ7
        refine V0_in (fun ho6 _ => ?_)
        refine q_iinc C rfl (lw := [some (rf 4), some (rf 1010), some (nu (v2 + 1))]) rfl (by decide) dX6_takeNumbers_26 ?_
        refine q_goto C 2 rfl dX6_takeNumbers_29 ?_
        obtain ⟨g8, hf⟩ := of_g hf
        exact V0_lw (ih (v2 + 1) μ5 g8 hf) (And.intro rfl (And.intro rfl (And.intro rfl trivial)))
set_option maxHeartbeats 4000000 in
set_option maxRecDepth 100000 in
theorem c_X6_takeNumbersD {l : Launch} {D : va_G} {cy : Nat → ClassId} {ad : Nat → Nat} {μ μ1 : Mem} { r : Int}  (hf : f_X6_takeNumbersD μ  = some (r, μ1)) : K0 aV0 l D (tyl cy) (layD cy) [0, 1, 9, 10, 11, 12, 13, 2, 14, 15, 3, 16, 4, 17] ad 2 yX6_takeNumbers cX6_takeNumbers 3 none [rf 4, rf 1010] μ r μ1 := by
  refine K0.of (by decide) (Nat.le_of_ble_eq_true rfl) ?_
  intro p e s m args below meth c A C hCF
  unfold f_X6_takeNumbersD at hf
  refine V0_in (fun ho0 _ => ?_)
  refine q_iconst C dX6_takeNumbers_0 ?_
  refine q_istore_n C 2 (lw := [some (rf 4), some (rf 1010), some (nu 0)]) rfl rfl (by decide) dX6_takeNumbers_1 ?_
  exact V0_lw (w_X6_takeNumbersD_2 C hCF 64 0 μ (inR_lit rfl) hf) (And.intro rfl (And.intro rfl (And.intro rfl trivial)))
set_option maxHeartbeats 4000000 in
set_option maxRecDepth 100000 in
theorem c_X6_init {l : Launch} {D : va_G} {cy : Nat → ClassId} {ad : Nat → Nat} {μ μ1 : Mem} {r : Int} (hf : f_X6_init μ = some (r, μ1)) : K0N l D (tyl cy) (layD cy) [0, 1, 9, 10, 11, 12, 13, 2, 14, 15, 3, 16, 4] ad 4 1 9 yX6_init cX6_init 1 [rf 4] μ [0, 1, 9, 10, 11, 12, 13, 2, 14, 15, 3, 16, 4, 17] μ1 := by
  refine K0N.of (by decide) (Nat.le_of_ble_eq_true rfl) ?_
  intro p e s m args below meth c A C hCF hAO hmn
  unfold f_X6_init at hf
  have hx : ext0 [0, 1, 9, 10, 11, 12, 13, 2, 14, 15, 3, 16, 4] ad ad := ⟨fun _ _ => rfl, fun _ _ => rfl⟩
  refine V0_in (fun ho0 _ => ?_)
  refine q_aload_n C 0 rfl rfl dX6_init_0 ?_
  refine q_objI C (by decide) tw_100 tw_25 tw_26 (by decide) (Nat.le_of_ble_eq_true rfl) dX6_init_1 ?_
  refine q_aload_n C 0 rfl rfl dX6_init_4 ?_
  refine q_bipush C dX6_init_5 rfl ?_
  refine q_newa C (atype := .int) (ty := .int) 0 rfl tw_56 rfl (fun _ h => h) 9 rfl (by decide) (fun _ => rfl) (by decide) 17 (fun ad f => lyD_17 cy ad f) (fun _ => rfl) (ids1 := [0, 1, 9, 10, 11, 12, 13, 2, 14, 15, 3, 16, 4, 17]) rfl (by decide) (by decide) (okL_mem (lv := [some (rf 4)]) (And.intro (fun _ => Or.inr (by decide)) trivial)) (List.forall_mem_cons.mpr ⟨(fun _ => Or.inr (by decide)), fun _ h => absurd h List.not_mem_nil⟩) (by decide) (by decide) (by decide) dX6_init_7 (fun q μ1 hμ3 hcf => ?_)
  replace hf := of_lm hf hμ3
  have hCF := hcf hCF
  have hx := ext0_adu (q := q) hx (by decide : 17 ∉ [0, 1, 9, 10, 11, 12, 13, 2, 14, 15, 3, 16, 4]) (by decide)
  refine V0_in (fun ho2 _ => ?_)
  refine q_putR C hmn 4 (by decide) rfl (fun _ => by decide) (lyD_4 cy _ _) 0 (lyD_4 cy _ _) rfl (Nat.le_of_ble_eq_true rfl) (by decide) (by decide) (inR_lit rfl) rfl in_X6 tyX6 tyX6_ok nmX6 (by decide) tw_107 rfl rfl rfl (fun _ => rfl) (fun _ => rfl) dX6_init_9 (fun μ4 hμ6 => ?_)
  replace hf := of_lm hf hμ6
  refine V0_in (fun ho5 _ => ?_)
  refine q_aload_n C 0 rfl rfl dX6_init_12 ?_
  refine q_gsW C hCF tw_101 dX6_init_13 ?_
  obtain ⟨r7, μ8, hc9, hf⟩ := of_bd hf
  refine h_callVV C hCF (As := [rf 1010]) 4 (by decide) rfl (fun _ => by decide) (lyD_4 cy _ _) rfl (c_X6_takeNumbersD  hc9) ⟨by decide, by decide⟩ ⟨by decide, by decide⟩ tw_103 tw_106 tw_5 tw_104 tw_105 1 (by decide) rfl (Nat.le_of_ble_eq_true rfl) dX6_init_16 ?_
  refine V0_in (fun ho10 _ => ?_)
  obtain ⟨-, rfl⟩ := of_ret hf
  exact q_vretM C rfl hx (by decide) (by decide) dX6_init_19
set_option maxHeartbeats 4000000 in
set_option maxRecDepth 100000 in
theorem c_X7_init {l : Launch} {D : va_G} {cy : Nat → ClassId} {ad : Nat → Nat} {μ μ1 : Mem} {r : Int} (hf : f_X7_init μ = some (r, μ1)) : K0N l D (tyl cy) (layD cy) [0, 1, 9, 10, 11, 12, 13, 2, 14, 15, 3, 16, 4, 17, 5] ad 2 1 9 yX7_init cX7_init 2 [rf 5, rf 3] μ [0, 1, 9, 10, 11, 12, 13, 2, 14, 15, 3, 16, 4, 17, 5, 18] μ1 := by
  refine K0N.of (by decide) (Nat.le_of_ble_eq_true rfl) ?_
  intro p e s m args below meth c A C hCF hAO hmn
  unfold f_X7_init at hf
  have hx : ext0 [0, 1, 9, 10, 11, 12, 13, 2, 14, 15, 3, 16, 4, 17, 5] ad ad := ⟨fun _ _ => rfl, fun _ _ => rfl⟩
  refine V0_in (fun ho0 _ => ?_)
  refine q_aload_n C 0 rfl rfl dX7_init_0 ?_
  refine q_objI C (by decide) tw_116 tw_25 tw_26 (by decide) (Nat.le_of_ble_eq_true rfl) dX7_init_1 ?_
  refine q_aload_n C 0 rfl rfl dX7_init_4 ?_
  refine q_bipush C dX7_init_5 rfl ?_
  refine q_newa C (atype := .int) (ty := .int) 0 rfl tw_56 rfl (fun _ h => h) 9 rfl (by decide) (fun _ => rfl) (by decide) 18 (fun ad f => lyD_18 cy ad f) (fun _ => rfl) (ids1 := [0, 1, 9, 10, 11, 12, 13, 2, 14, 15, 3, 16, 4, 17, 5, 18]) rfl (by decide) (by decide) (okL_mem (lv := [some (rf 5), some (rf 3)]) (And.intro (fun _ => Or.inr (by decide)) (And.intro (fun _ => Or.inr (by decide)) trivial))) (List.forall_mem_cons.mpr ⟨(fun _ => Or.inr (by decide)), fun _ h => absurd h List.not_mem_nil⟩) (by decide) (by decide) (by decide) dX7_init_7 (fun q μ1 hμ3 hcf => ?_)
  replace hf := of_lm hf hμ3
  have hCF := hcf hCF
  have hx := ext0_adu (q := q) hx (by decide : 18 ∉ [0, 1, 9, 10, 11, 12, 13, 2, 14, 15, 3, 16, 4, 17, 5]) (by decide)
  refine V0_in (fun ho2 _ => ?_)
  refine q_putR C hmn 5 (by decide) rfl (fun _ => by decide) (lyD_5 cy _ _) 1 (lyD_5 cy _ _) rfl (Nat.le_of_ble_eq_true rfl) (by decide) (by decide) (inR_lit rfl) rfl in_X7 tyX7 tyX7_ok nmX7 (by decide) tw_118 rfl rfl rfl (fun _ => rfl) (fun _ => rfl) dX7_init_9 (fun μ4 hμ6 => ?_)
  replace hf := of_lm hf hμ6
  refine V0_in (fun ho5 _ => ?_)
  refine q_aload_n C 0 rfl rfl dX7_init_12 ?_
  refine q_iconst C dX7_init_13 ?_
  refine q_putf C 5 (by decide) rfl (fun _ => by decide) (lyD_5 cy _ _) 2 rfl (lyD_5 cy _ _) rfl (Nat.le_of_ble_eq_true rfl) (inR_lit rfl) rfl in_X7 tyX7 tyX7_ok nmX7 (by decide) tw_120 rfl rfl dX7_init_14 (fun μ7 hμ9 => ?_)
  replace hf := of_lm hf hμ9
  refine V0_in (fun ho8 _ => ?_)
  refine q_aload_n C 0 rfl rfl dX7_init_17 ?_
  refine q_iconst C dX7_init_18 ?_
  refine q_putf C 5 (by decide) rfl (fun _ => by decide) (lyD_5 cy _ _) 3 rfl (lyD_5 cy _ _) rfl (Nat.le_of_ble_eq_true rfl) (inR_lit rfl) rfl in_X7 tyX7 tyX7_ok nmX7 (by decide) tw_122 rfl rfl dX7_init_19 (fun μ10 hμ12 => ?_)
  replace hf := of_lm hf hμ12
  refine V0_in (fun ho11 _ => ?_)
  refine q_aload_n C 0 rfl rfl dX7_init_22 ?_
  refine q_iconst C dX7_init_23 ?_
  refine q_putf C 5 (by decide) rfl (fun _ => by decide) (lyD_5 cy _ _) 4 rfl (lyD_5 cy _ _) rfl (Nat.le_of_ble_eq_true rfl) (inR_lit rfl) rfl in_X7 tyX7 tyX7_ok nmX7 (by decide) tw_123 rfl rfl dX7_init_24 (fun μ13 hμ15 => ?_)
  replace hf := of_lm hf hμ15
  refine V0_in (fun ho14 _ => ?_)
  refine q_aload_n C 0 rfl rfl dX7_init_27 ?_
  refine q_iconst C dX7_init_28 ?_
  refine q_putf C 5 (by decide) rfl (fun _ => by decide) (lyD_5 cy _ _) 5 rfl (lyD_5 cy _ _) rfl (Nat.le_of_ble_eq_true rfl) (inR_lit rfl) rfl in_X7 tyX7 tyX7_ok nmX7 (by decide) tw_124 rfl rfl dX7_init_29 (fun μ16 hμ18 => ?_)
  replace hf := of_lm hf hμ18
  refine V0_in (fun ho17 _ => ?_)
  refine q_aload_n C 0 rfl rfl dX7_init_32 ?_
  refine q_aload_n C 1 rfl rfl dX7_init_33 ?_
  refine q_putR C hmn 5 (by decide) rfl (fun _ => by decide) (lyD_5 cy _ _) 0 (lyD_5 cy _ _) rfl (Nat.le_of_ble_eq_true rfl) (by decide) (by decide) (inR_lit rfl) rfl in_X7 tyX7 tyX7_ok nmX7 (by decide) tw_117 rfl rfl rfl (fun _ => rfl) (fun _ => rfl) dX7_init_34 (fun μ19 hμ21 => ?_)
  replace hf := of_lm hf hμ21
  refine V0_in (fun ho20 _ => ?_)
  obtain ⟨-, rfl⟩ := of_ret hf
  exact q_vretM C rfl hx (by decide) (by decide) dX7_init_37
set_option maxHeartbeats 4000000 in
set_option maxRecDepth 100000 in
theorem c_X3_init {l : Launch} {D : va_G} {cy : Nat → ClassId} {ad : Nat → Nat} {μ μ1 : Mem} {r : Int} (hf : f_X3_init μ = some (r, μ1)) : K0N l D (tyl cy) (layD cy) [0, 1, 9, 10, 11, 12, 13, 2, 14, 15, 3, 16, 4, 17, 5, 18, 6] ad 2 2 36 yX3_init cX3_init 4 [rf 6, rf 4, rf 1, rf 2] μ [0, 1, 9, 10, 11, 12, 13, 2, 14, 15, 3, 16, 4, 17, 5, 18, 6, 19, 20] μ1 := by
  refine K0N.of (by decide) (Nat.le_of_ble_eq_true rfl) ?_
  intro p e s m args below meth c A C hCF hAO hmn
  unfold f_X3_init at hf
  have hx : ext0 [0, 1, 9, 10, 11, 12, 13, 2, 14, 15, 3, 16, 4, 17, 5, 18, 6] ad ad := ⟨fun _ _ => rfl, fun _ _ => rfl⟩
  refine V0_in (fun ho0 _ => ?_)
  refine q_aload_n C 0 rfl rfl dX3_init_0 ?_
  refine q_objI C (by decide) tw_143 tw_25 tw_26 (by decide) (Nat.le_of_ble_eq_true rfl) dX3_init_1 ?_
  refine q_aload_n C 0 rfl rfl dX3_init_4 ?_
  refine q_bipush C dX3_init_5 rfl ?_
  refine q_newq C 3 tw_144 hAO.1 rfl 6 rfl (by decide) 19 (fun ad f => lyD_19 cy ad f) (ids1 := [0, 1, 9, 10, 11, 12, 13, 2, 14, 15, 3, 16, 4, 17, 5, 18, 6, 19]) rfl (by decide) (by decide) (okL_mem (lv := [some (rf 6), some (rf 4), some (rf 1), some (rf 2)]) (And.intro (fun _ => Or.inr (by decide)) (And.intro (fun _ => Or.inr (by decide)) (And.intro (fun _ => Or.inr (by decide)) (And.intro (fun _ => Or.inr (by decide)) trivial))))) (List.forall_mem_cons.mpr ⟨(fun _ => Or.inr (by decide)), fun _ h => absurd h List.not_mem_nil⟩) (by decide) (by decide) (by decide) dX3_init_7 (fun q μ1 hμ3 hcf => ?_)
  replace hf := of_lm hf hμ3
  have hCF := hcf hCF
  have hx := ext0_adu (q := q) hx (by decide : 19 ∉ [0, 1, 9, 10, 11, 12, 13, 2, 14, 15, 3, 16, 4, 17, 5, 18, 6]) (by decide)
  refine V0_in (fun ho2 _ => ?_)
  refine q_putR C hmn 6 (by decide) rfl (fun _ => by decide) (lyD_6 cy _ _) 3 (lyD_6 cy _ _) rfl (Nat.le_of_ble_eq_true rfl) (by decide) (by decide) (inR_lit rfl) rfl in_X3 tyX3 tyX3_ok nmX3 (by decide) tw_151 rfl rfl rfl (fun _ => rfl) (fun _ => rfl) dX3_init_10 (fun μ4 hμ6 => ?_)
  replace hf := of_lm hf hμ6
  refine V0_in (fun ho5 _ => ?_)
  refine q_aload_n C 0 rfl rfl dX3_init_13 ?_
  refine q_bipush C dX3_init_14 rfl ?_
  refine q_newq C 4 tw_146 hAO.2.1 rfl 30 rfl (by decide) 20 (fun ad f => lyD_20 cy ad f) (ids1 := [0, 1, 9, 10, 11, 12, 13, 2, 14, 15, 3, 16, 4, 17, 5, 18, 6, 19, 20]) rfl (by decide) (by decide) (okL_mem (lv := [some (rf 6), some (rf 4), some (rf 1), some (rf 2)]) (And.intro (fun _ => Or.inr (by decide)) (And.intro (fun _ => Or.inr (by decide)) (And.intro (fun _ => Or.inr (by decide)) (And.intro (fun _ => Or.inr (by decide)) trivial))))) (List.forall_mem_cons.mpr ⟨(fun _ => Or.inr (by decide)), fun _ h => absurd h List.not_mem_nil⟩) (by decide) (by decide) (by decide) dX3_init_16 (fun q μ7 hμ9 hcf => ?_)
  replace hf := of_lm hf hμ9
  have hCF := hcf hCF
  have hx := ext0_adu (q := q) hx (by decide : 20 ∉ [0, 1, 9, 10, 11, 12, 13, 2, 14, 15, 3, 16, 4, 17, 5, 18, 6]) (by decide)
  refine V0_in (fun ho8 _ => ?_)
  refine q_putR C hmn 6 (by decide) rfl (fun _ => by decide) (lyD_6 cy _ _) 4 (lyD_6 cy _ _) rfl (Nat.le_of_ble_eq_true rfl) (by decide) (by decide) (inR_lit rfl) rfl in_X3 tyX3 tyX3_ok nmX3 (by decide) tw_152 rfl rfl rfl (fun _ => rfl) (fun _ => rfl) dX3_init_19 (fun μ10 hμ12 => ?_)
  replace hf := of_lm hf hμ12
  refine V0_in (fun ho11 _ => ?_)
  refine q_aload_n C 0 rfl rfl dX3_init_22 ?_
  refine q_iconst C dX3_init_23 ?_
  refine q_putf C 6 (by decide) rfl (fun _ => by decide) (lyD_6 cy _ _) 5 rfl (lyD_6 cy _ _) rfl (Nat.le_of_ble_eq_true rfl) (inR_lit rfl) rfl in_X3 tyX3 tyX3_ok nmX3 (by decide) tw_153 rfl rfl dX3_init_24 (fun μ13 hμ15 => ?_)
  replace hf := of_lm hf hμ15
  refine V0_in (fun ho14 _ => ?_)
  refine q_aload_n C 0 rfl rfl dX3_init_27 ?_
  refine q_iconst C dX3_init_28 ?_
  refine q_putf C 6 (by decide) rfl (fun _ => by decide) (lyD_6 cy _ _) 6 rfl (lyD_6 cy _ _) rfl (Nat.le_of_ble_eq_true rfl) (inR_lit rfl) rfl in_X3 tyX3 tyX3_ok nmX3 (by decide) tw_155 rfl rfl dX3_init_29 (fun μ16 hμ18 => ?_)
  replace hf := of_lm hf hμ18
  refine V0_in (fun ho17 _ => ?_)
  refine q_aload_n C 0 rfl rfl dX3_init_32 ?_
  refine q_iconst C dX3_init_33 ?_
  refine q_putf C 6 (by decide) rfl (fun _ => by decide) (lyD_6 cy _ _) 7 rfl (lyD_6 cy _ _) rfl (Nat.le_of_ble_eq_true rfl) (inR_lit rfl) rfl in_X3 tyX3 tyX3_ok nmX3 (by decide) tw_158 rfl rfl dX3_init_34 (fun μ19 hμ21 => ?_)
  replace hf := of_lm hf hμ21
  refine V0_in (fun ho20 _ => ?_)
  refine q_aload_n C 0 rfl rfl dX3_init_37 ?_
  refine q_iconst C dX3_init_38 ?_
  refine q_putf C 6 (by decide) rfl (fun _ => by decide) (lyD_6 cy _ _) 8 rfl (lyD_6 cy _ _) rfl (Nat.le_of_ble_eq_true rfl) (inR_lit rfl) rfl in_X3 tyX3 tyX3_ok nmX3 (by decide) tw_159 rfl rfl dX3_init_39 (fun μ22 hμ24 => ?_)
  replace hf := of_lm hf hμ24
  refine V0_in (fun ho23 _ => ?_)
  refine q_aload_n C 0 rfl rfl dX3_init_42 ?_
  refine q_iconst C dX3_init_43 ?_
  refine q_putf C 6 (by decide) rfl (fun _ => by decide) (lyD_6 cy _ _) 9 rfl (lyD_6 cy _ _) rfl (Nat.le_of_ble_eq_true rfl) (inR_lit rfl) rfl in_X3 tyX3 tyX3_ok nmX3 (by decide) tw_162 rfl rfl dX3_init_44 (fun μ25 hμ27 => ?_)
  replace hf := of_lm hf hμ27
  refine V0_in (fun ho26 _ => ?_)
  refine q_aload_n C 0 rfl rfl dX3_init_47 ?_
  refine q_iconst C dX3_init_48 ?_
  refine q_putf C 6 (by decide) rfl (fun _ => by decide) (lyD_6 cy _ _) 10 rfl (lyD_6 cy _ _) rfl (Nat.le_of_ble_eq_true rfl) (inR_lit rfl) rfl in_X3 tyX3 tyX3_ok nmX3 (by decide) tw_165 rfl rfl dX3_init_49 (fun μ28 hμ30 => ?_)
  replace hf := of_lm hf hμ30
  refine V0_in (fun ho29 _ => ?_)
  refine q_aload_n C 0 rfl rfl dX3_init_52 ?_
  refine q_aload_n C 1 rfl rfl dX3_init_53 ?_
  refine q_putR C hmn 6 (by decide) rfl (fun _ => by decide) (lyD_6 cy _ _) 0 (lyD_6 cy _ _) rfl (Nat.le_of_ble_eq_true rfl) (by decide) (by decide) (inR_lit rfl) rfl in_X3 tyX3 tyX3_ok nmX3 (by decide) tw_148 rfl rfl rfl (fun _ => rfl) (fun _ => rfl) dX3_init_54 (fun μ31 hμ33 => ?_)
  replace hf := of_lm hf hμ33
  refine V0_in (fun ho32 _ => ?_)
  refine q_aload_n C 0 rfl rfl dX3_init_57 ?_
  refine q_aload_n C 2 rfl rfl dX3_init_58 ?_
  refine q_putR C hmn 6 (by decide) rfl (fun _ => by decide) (lyD_6 cy _ _) 1 (lyD_6 cy _ _) rfl (Nat.le_of_ble_eq_true rfl) (by decide) (by decide) (inR_lit rfl) rfl in_X3 tyX3 tyX3_ok nmX3 (by decide) tw_149 rfl rfl rfl (fun _ => rfl) (fun _ => rfl) dX3_init_59 (fun μ34 hμ36 => ?_)
  replace hf := of_lm hf hμ36
  refine V0_in (fun ho35 _ => ?_)
  refine q_aload_n C 0 rfl rfl dX3_init_62 ?_
  refine q_aload_n C 3 rfl rfl dX3_init_63 ?_
  refine q_putR C hmn 6 (by decide) rfl (fun _ => by decide) (lyD_6 cy _ _) 2 (lyD_6 cy _ _) rfl (Nat.le_of_ble_eq_true rfl) (by decide) (by decide) (inR_lit rfl) rfl in_X3 tyX3 tyX3_ok nmX3 (by decide) tw_150 rfl rfl rfl (fun _ => rfl) (fun _ => rfl) dX3_init_64 (fun μ37 hμ39 => ?_)
  replace hf := of_lm hf hμ39
  refine V0_in (fun ho38 _ => ?_)
  obtain ⟨-, rfl⟩ := of_ret hf
  exact q_vretM C rfl hx (by decide) (by decide) dX3_init_67
set_option maxHeartbeats 4000000 in
set_option maxRecDepth 100000 in
theorem c_X1_init {l : Launch} {D : va_G} {cy : Nat → ClassId} {ad : Nat → Nat} {μ μ1 : Mem} {r : Int} (hf : f_X1_init μ = some (r, μ1)) : K0N l D (tyl cy) (layD cy) [0, 1, 9, 10, 11, 12, 13, 2, 14, 15, 3, 16, 4, 17, 5, 18, 6, 19, 20, 7] ad 2 21 106 yX1_init cX1_init 4 [rf 7, rf 6, rf 4, rf 1] μ [0, 1, 9, 10, 11, 12, 13, 2, 14, 15, 3, 16, 4, 17, 5, 18, 6, 19, 20, 7, 21, 22, 23, 40, 41, 42, 43, 44, 24, 25, 26, 27, 28, 29, 30, 31, 45, 46, 47, 48, 49] μ1 := by
  refine K0N.of (by decide) (Nat.le_of_ble_eq_true rfl) ?_
  intro p e s m args below meth c A C hCF hAO hmn
  unfold f_X1_init at hf
  have hx : ext0 [0, 1, 9, 10, 11, 12, 13, 2, 14, 15, 3, 16, 4, 17, 5, 18, 6, 19, 20, 7] ad ad := ⟨fun _ _ => rfl, fun _ _ => rfl⟩
  refine V0_in (fun ho0 _ => ?_)
  refine q_aload_n C 0 rfl rfl dX1_init_0 ?_
  refine q_objI C (by decide) tw_195 tw_25 tw_26 (by decide) (Nat.le_of_ble_eq_true rfl) dX1_init_1 ?_
  refine q_aload_n C 0 rfl rfl dX1_init_4 ?_
  refine q_iconst C dX1_init_5 ?_
  refine q_newq C 4 tw_196 hAO.2.1 rfl 5 rfl (by decide) 21 (fun ad f => lyD_21 cy ad f) (ids1 := [0, 1, 9, 10, 11, 12, 13, 2, 14, 15, 3, 16, 4, 17, 5, 18, 6, 19, 20, 7, 21]) rfl (by decide) (by decide) (okL_mem (lv := [some (rf 7), some (rf 6), some (rf 4), some (rf 1)]) (And.intro (fun _ => Or.inr (by decide)) (And.intro (fun _ => Or.inr (by decide)) (And.intro (fun _ => Or.inr (by decide)) (And.intro (fun _ => Or.inr (by decide)) trivial))))) (List.forall_mem_cons.mpr ⟨(fun _ => Or.inr (by decide)), fun _ h => absurd h List.not_mem_nil⟩) (by decide) (by decide) (by decide) dX1_init_6 (fun q μ1 hμ3 hcf => ?_)
  replace hf := of_lm hf hμ3
  have hCF := hcf hCF
  have hx := ext0_adu (q := q) hx (by decide : 21 ∉ [0, 1, 9, 10, 11, 12, 13, 2, 14, 15, 3, 16, 4, 17, 5, 18, 6, 19, 20, 7]) (by decide)
  refine V0_in (fun ho2 _ => ?_)
  refine q_putR C hmn 7 (by decide) rfl (fun _ => by decide) (lyD_7 cy _ _) 3 (lyD_7 cy _ _) rfl (Nat.le_of_ble_eq_true rfl) (by decide) (by decide) (inR_lit rfl) rfl in_X1 tyX1 tyX1_ok nmX1 (by decide) tw_202 rfl rfl rfl (fun _ => rfl) (fun _ => rfl) dX1_init_9 (fun μ4 hμ6 => ?_)
  replace hf := of_lm hf hμ6
  refine V0_in (fun ho5 _ => ?_)
  refine q_aload_n C 0 rfl rfl dX1_init_12 ?_
  refine q_iconst C dX1_init_13 ?_
  refine q_newa C (atype := .int) (ty := .int) 0 rfl tw_56 rfl (fun _ h => h) 5 rfl (by decide) (fun _ => rfl) (by decide) 22 (fun ad f => lyD_22 cy ad f) (fun _ => rfl) (ids1 := [0, 1, 9, 10, 11, 12, 13, 2, 14, 15, 3, 16, 4, 17, 5, 18, 6, 19, 20, 7, 21, 22]) rfl (by decide) (by decide) (okL_mem (lv := [some (rf 7), some (rf 6), some (rf 4), some (rf 1)]) (And.intro (fun _ => Or.inr (by decide)) (And.intro (fun _ => Or.inr (by decide)) (And.intro (fun _ => Or.inr (by decide)) (And.intro (fun _ => Or.inr (by decide)) trivial))))) (List.forall_mem_cons.mpr ⟨(fun _ => Or.inr (by decide)), fun _ h => absurd h List.not_mem_nil⟩) (by decide) (by decide) (by decide) dX1_init_14 (fun q μ7 hμ9 hcf => ?_)
  replace hf := of_lm hf hμ9
  have hCF := hcf hCF
  have hx := ext0_adu (q := q) hx (by decide : 22 ∉ [0, 1, 9, 10, 11, 12, 13, 2, 14, 15, 3, 16, 4, 17, 5, 18, 6, 19, 20, 7]) (by decide)
  refine V0_in (fun ho8 _ => ?_)
  refine q_putR C hmn 7 (by decide) rfl (fun _ => by decide) (lyD_7 cy _ _) 4 (lyD_7 cy _ _) rfl (Nat.le_of_ble_eq_true rfl) (by decide) (by decide) (inR_lit rfl) rfl in_X1 tyX1 tyX1_ok nmX1 (by decide) tw_203 rfl rfl rfl (fun _ => rfl) (fun _ => rfl) dX1_init_16 (fun μ10 hμ12 => ?_)
  replace hf := of_lm hf hμ12
  refine V0_in (fun ho11 _ => ?_)
  refine q_aload_n C 0 rfl rfl dX1_init_19 ?_
  refine q_iconst C dX1_init_20 ?_
  refine q_putf C 7 (by decide) rfl (fun _ => by decide) (lyD_7 cy _ _) 5 rfl (lyD_7 cy _ _) rfl (Nat.le_of_ble_eq_true rfl) (inR_lit rfl) rfl in_X1 tyX1 tyX1_ok nmX1 (by decide) tw_204 rfl rfl dX1_init_21 (fun μ13 hμ15 => ?_)
  replace hf := of_lm hf hμ15
  refine V0_in (fun ho14 _ => ?_)
  refine q_aload_n C 0 rfl rfl dX1_init_24 ?_
  refine q_iconst C dX1_init_25 ?_
  refine q_bipush C dX1_init_26 rfl ?_
  refine q_mna C tw_197 tw_56 hAO.2.2 5 6 rfl rfl (by decide) (by decide) 23 40 (fun ad f => lyD_23 cy ad f) lyD_g40 rp_g40 (ids1 := [0, 1, 9, 10, 11, 12, 13, 2, 14, 15, 3, 16, 4, 17, 5, 18, 6, 19, 20, 7, 21, 22, 23, 40, 41, 42, 43, 44]) rfl (by decide) (by decide) (by decide) (by decide) (okL_mem (lv := [some (rf 7), some (rf 6), some (rf 4), some (rf 1)]) (And.intro (fun _ => Or.inr (by decide)) (And.intro (fun _ => Or.inr (by decide)) (And.intro (fun _ => Or.inr (by decide)) (And.intro (fun _ => Or.inr (by decide)) trivial))))) (List.forall_mem_cons.mpr ⟨(fun _ => Or.inr (by decide)), fun _ h => absurd h List.not_mem_nil⟩) (by decide) (by decide) (by decide) (by decide) dX1_init_28 (fun ad1 μ16 hμ18 hx1 hcf => ?_)
  replace hf := of_lm hf hμ18
  have hCF := hcf hCF
  have hx := ext0_trans hx hx1 (by decide : ∀ a ∈ [0, 1, 9, 10, 11, 12, 13, 2, 14, 15, 3, 16, 4, 17, 5, 18, 6, 19, 20, 7], a ∈ [0, 1, 9, 10, 11, 12, 13, 2, 14, 15, 3, 16, 4, 17, 5, 18, 6, 19, 20, 7, 21, 22])
  refine V0_in (fun ho17 _ => ?_)
  refine q_putR C hmn 7 (by decide) rfl (fun _ => by decide) (lyD_7 cy _ _) 6 (lyD_7 cy _ _) rfl (Nat.le_of_ble_eq_true rfl) (by decide) (by decide) (inR_lit rfl) rfl in_X1 tyX1 tyX1_ok nmX1 (by decide) tw_205 rfl rfl rfl (fun _ => rfl) (fun _ => rfl) dX1_init_32 (fun μ19 hμ21 => ?_)
  replace hf := of_lm hf hμ21
  refine V0_in (fun ho20 _ => ?_)
  refine q_aload_n C 0 rfl rfl dX1_init_35 ?_
  refine q_iconst C dX1_init_36 ?_
  refine q_newa C (atype := .int) (ty := .int) 0 rfl tw_56 rfl (fun _ h => h) 5 rfl (by decide) (fun _ => rfl) (by decide) 24 (fun ad f => lyD_24 cy ad f) (fun _ => rfl) (ids1 := [0, 1, 9, 10, 11, 12, 13, 2, 14, 15, 3, 16, 4, 17, 5, 18, 6, 19, 20, 7, 21, 22, 23, 40, 41, 42, 43, 44, 24]) rfl (by decide) (by decide) (okL_mem (lv := [some (rf 7), some (rf 6), some (rf 4), some (rf 1)]) (And.intro (fun _ => Or.inr (by decide)) (And.intro (fun _ => Or.inr (by decide)) (And.intro (fun _ => Or.inr (by decide)) (And.intro (fun _ => Or.inr (by decide)) trivial))))) (List.forall_mem_cons.mpr ⟨(fun _ => Or.inr (by decide)), fun _ h => absurd h List.not_mem_nil⟩) (by decide) (by decide) (by decide) dX1_init_37 (fun q μ22 hμ24 hcf => ?_)
  replace hf := of_lm hf hμ24
  have hCF := hcf hCF
  have hx := ext0_adu (q := q) hx (by decide : 24 ∉ [0, 1, 9, 10, 11, 12, 13, 2, 14, 15, 3, 16, 4, 17, 5, 18, 6, 19, 20, 7]) (by decide)
  refine V0_in (fun ho23 _ => ?_)
  refine q_putR C hmn 7 (by decide) rfl (fun _ => by decide) (lyD_7 cy _ _) 7 (lyD_7 cy _ _) rfl (Nat.le_of_ble_eq_true rfl) (by decide) (by decide) (inR_lit rfl) rfl in_X1 tyX1 tyX1_ok nmX1 (by decide) tw_206 rfl rfl rfl (fun _ => rfl) (fun _ => rfl) dX1_init_39 (fun μ25 hμ27 => ?_)
  replace hf := of_lm hf hμ27
  refine V0_in (fun ho26 _ => ?_)
  refine q_aload_n C 0 rfl rfl dX1_init_42 ?_
  refine q_iconst C dX1_init_43 ?_
  refine q_newa C (atype := .int) (ty := .int) 0 rfl tw_56 rfl (fun _ h => h) 5 rfl (by decide) (fun _ => rfl) (by decide) 25 (fun ad f => lyD_25 cy ad f) (fun _ => rfl) (ids1 := [0, 1, 9, 10, 11, 12, 13, 2, 14, 15, 3, 16, 4, 17, 5, 18, 6, 19, 20, 7, 21, 22, 23, 40, 41, 42, 43, 44, 24, 25]) rfl (by decide) (by decide) (okL_mem (lv := [some (rf 7), some (rf 6), some (rf 4), some (rf 1)]) (And.intro (fun _ => Or.inr (by decide)) (And.intro (fun _ => Or.inr (by decide)) (And.intro (fun _ => Or.inr (by decide)) (And.intro (fun _ => Or.inr (by decide)) trivial))))) (List.forall_mem_cons.mpr ⟨(fun _ => Or.inr (by decide)), fun _ h => absurd h List.not_mem_nil⟩) (by decide) (by decide) (by decide) dX1_init_44 (fun q μ28 hμ30 hcf => ?_)
  replace hf := of_lm hf hμ30
  have hCF := hcf hCF
  have hx := ext0_adu (q := q) hx (by decide : 25 ∉ [0, 1, 9, 10, 11, 12, 13, 2, 14, 15, 3, 16, 4, 17, 5, 18, 6, 19, 20, 7]) (by decide)
  refine V0_in (fun ho29 _ => ?_)
  refine q_putR C hmn 7 (by decide) rfl (fun _ => by decide) (lyD_7 cy _ _) 8 (lyD_7 cy _ _) rfl (Nat.le_of_ble_eq_true rfl) (by decide) (by decide) (inR_lit rfl) rfl in_X1 tyX1 tyX1_ok nmX1 (by decide) tw_207 rfl rfl rfl (fun _ => rfl) (fun _ => rfl) dX1_init_46 (fun μ31 hμ33 => ?_)
  replace hf := of_lm hf hμ33
  refine V0_in (fun ho32 _ => ?_)
  refine q_aload_n C 0 rfl rfl dX1_init_49 ?_
  refine q_iconst C dX1_init_50 ?_
  refine q_newa C (atype := .int) (ty := .int) 0 rfl tw_56 rfl (fun _ h => h) 5 rfl (by decide) (fun _ => rfl) (by decide) 26 (fun ad f => lyD_26 cy ad f) (fun _ => rfl) (ids1 := [0, 1, 9, 10, 11, 12, 13, 2, 14, 15, 3, 16, 4, 17, 5, 18, 6, 19, 20, 7, 21, 22, 23, 40, 41, 42, 43, 44, 24, 25, 26]) rfl (by decide) (by decide) (okL_mem (lv := [some (rf 7), some (rf 6), some (rf 4), some (rf 1)]) (And.intro (fun _ => Or.inr (by decide)) (And.intro (fun _ => Or.inr (by decide)) (And.intro (fun _ => Or.inr (by decide)) (And.intro (fun _ => Or.inr (by decide)) trivial))))) (List.forall_mem_cons.mpr ⟨(fun _ => Or.inr (by decide)), fun _ h => absurd h List.not_mem_nil⟩) (by decide) (by decide) (by decide) dX1_init_51 (fun q μ34 hμ36 hcf => ?_)
  replace hf := of_lm hf hμ36
  have hCF := hcf hCF
  have hx := ext0_adu (q := q) hx (by decide : 26 ∉ [0, 1, 9, 10, 11, 12, 13, 2, 14, 15, 3, 16, 4, 17, 5, 18, 6, 19, 20, 7]) (by decide)
  refine V0_in (fun ho35 _ => ?_)
  refine q_putR C hmn 7 (by decide) rfl (fun _ => by decide) (lyD_7 cy _ _) 9 (lyD_7 cy _ _) rfl (Nat.le_of_ble_eq_true rfl) (by decide) (by decide) (inR_lit rfl) rfl in_X1 tyX1 tyX1_ok nmX1 (by decide) tw_208 rfl rfl rfl (fun _ => rfl) (fun _ => rfl) dX1_init_53 (fun μ37 hμ39 => ?_)
  replace hf := of_lm hf hμ39
  refine V0_in (fun ho38 _ => ?_)
  refine q_aload_n C 0 rfl rfl dX1_init_56 ?_
  refine q_iconst C dX1_init_57 ?_
  refine q_newa C (atype := .int) (ty := .int) 0 rfl tw_56 rfl (fun _ h => h) 5 rfl (by decide) (fun _ => rfl) (by decide) 27 (fun ad f => lyD_27 cy ad f) (fun _ => rfl) (ids1 := [0, 1, 9, 10, 11, 12, 13, 2, 14, 15, 3, 16, 4, 17, 5, 18, 6, 19, 20, 7, 21, 22, 23, 40, 41, 42, 43, 44, 24, 25, 26, 27]) rfl (by decide) (by decide) (okL_mem (lv := [some (rf 7), some (rf 6), some (rf 4), some (rf 1)]) (And.intro (fun _ => Or.inr (by decide)) (And.intro (fun _ => Or.inr (by decide)) (And.intro (fun _ => Or.inr (by decide)) (And.intro (fun _ => Or.inr (by decide)) trivial))))) (List.forall_mem_cons.mpr ⟨(fun _ => Or.inr (by decide)), fun _ h => absurd h List.not_mem_nil⟩) (by decide) (by decide) (by decide) dX1_init_58 (fun q μ40 hμ42 hcf => ?_)
  replace hf := of_lm hf hμ42
  have hCF := hcf hCF
  have hx := ext0_adu (q := q) hx (by decide : 27 ∉ [0, 1, 9, 10, 11, 12, 13, 2, 14, 15, 3, 16, 4, 17, 5, 18, 6, 19, 20, 7]) (by decide)
  refine V0_in (fun ho41 _ => ?_)
  refine q_putR C hmn 7 (by decide) rfl (fun _ => by decide) (lyD_7 cy _ _) 10 (lyD_7 cy _ _) rfl (Nat.le_of_ble_eq_true rfl) (by decide) (by decide) (inR_lit rfl) rfl in_X1 tyX1 tyX1_ok nmX1 (by decide) tw_209 rfl rfl rfl (fun _ => rfl) (fun _ => rfl) dX1_init_60 (fun μ43 hμ45 => ?_)
  replace hf := of_lm hf hμ45
  refine V0_in (fun ho44 _ => ?_)
  refine q_aload_n C 0 rfl rfl dX1_init_63 ?_
  refine q_iconst C dX1_init_64 ?_
  refine q_newa C (atype := .int) (ty := .int) 0 rfl tw_56 rfl (fun _ h => h) 5 rfl (by decide) (fun _ => rfl) (by decide) 28 (fun ad f => lyD_28 cy ad f) (fun _ => rfl) (ids1 := [0, 1, 9, 10, 11, 12, 13, 2, 14, 15, 3, 16, 4, 17, 5, 18, 6, 19, 20, 7, 21, 22, 23, 40, 41, 42, 43, 44, 24, 25, 26, 27, 28]) rfl (by decide) (by decide) (okL_mem (lv := [some (rf 7), some (rf 6), some (rf 4), some (rf 1)]) (And.intro (fun _ => Or.inr (by decide)) (And.intro (fun _ => Or.inr (by decide)) (And.intro (fun _ => Or.inr (by decide)) (And.intro (fun _ => Or.inr (by decide)) trivial))))) (List.forall_mem_cons.mpr ⟨(fun _ => Or.inr (by decide)), fun _ h => absurd h List.not_mem_nil⟩) (by decide) (by decide) (by decide) dX1_init_65 (fun q μ46 hμ48 hcf => ?_)
  replace hf := of_lm hf hμ48
  have hCF := hcf hCF
  have hx := ext0_adu (q := q) hx (by decide : 28 ∉ [0, 1, 9, 10, 11, 12, 13, 2, 14, 15, 3, 16, 4, 17, 5, 18, 6, 19, 20, 7]) (by decide)
  refine V0_in (fun ho47 _ => ?_)
  refine q_putR C hmn 7 (by decide) rfl (fun _ => by decide) (lyD_7 cy _ _) 11 (lyD_7 cy _ _) rfl (Nat.le_of_ble_eq_true rfl) (by decide) (by decide) (inR_lit rfl) rfl in_X1 tyX1 tyX1_ok nmX1 (by decide) tw_210 rfl rfl rfl (fun _ => rfl) (fun _ => rfl) dX1_init_67 (fun μ49 hμ51 => ?_)
  replace hf := of_lm hf hμ51
  refine V0_in (fun ho50 _ => ?_)
  refine q_aload_n C 0 rfl rfl dX1_init_70 ?_
  refine q_iconst C dX1_init_71 ?_
  refine q_newa C (atype := .int) (ty := .int) 0 rfl tw_56 rfl (fun _ h => h) 5 rfl (by decide) (fun _ => rfl) (by decide) 29 (fun ad f => lyD_29 cy ad f) (fun _ => rfl) (ids1 := [0, 1, 9, 10, 11, 12, 13, 2, 14, 15, 3, 16, 4, 17, 5, 18, 6, 19, 20, 7, 21, 22, 23, 40, 41, 42, 43, 44, 24, 25, 26, 27, 28, 29]) rfl (by decide) (by decide) (okL_mem (lv := [some (rf 7), some (rf 6), some (rf 4), some (rf 1)]) (And.intro (fun _ => Or.inr (by decide)) (And.intro (fun _ => Or.inr (by decide)) (And.intro (fun _ => Or.inr (by decide)) (And.intro (fun _ => Or.inr (by decide)) trivial))))) (List.forall_mem_cons.mpr ⟨(fun _ => Or.inr (by decide)), fun _ h => absurd h List.not_mem_nil⟩) (by decide) (by decide) (by decide) dX1_init_72 (fun q μ52 hμ54 hcf => ?_)
  replace hf := of_lm hf hμ54
  have hCF := hcf hCF
  have hx := ext0_adu (q := q) hx (by decide : 29 ∉ [0, 1, 9, 10, 11, 12, 13, 2, 14, 15, 3, 16, 4, 17, 5, 18, 6, 19, 20, 7]) (by decide)
  refine V0_in (fun ho53 _ => ?_)
  refine q_putR C hmn 7 (by decide) rfl (fun _ => by decide) (lyD_7 cy _ _) 12 (lyD_7 cy _ _) rfl (Nat.le_of_ble_eq_true rfl) (by decide) (by decide) (inR_lit rfl) rfl in_X1 tyX1 tyX1_ok nmX1 (by decide) tw_211 rfl rfl rfl (fun _ => rfl) (fun _ => rfl) dX1_init_74 (fun μ55 hμ57 => ?_)
  replace hf := of_lm hf hμ57
  refine V0_in (fun ho56 _ => ?_)
  refine q_aload_n C 0 rfl rfl dX1_init_77 ?_
  refine q_bipush C dX1_init_78 rfl ?_
  refine q_newa C (atype := .int) (ty := .int) 0 rfl tw_56 rfl (fun _ h => h) 6 rfl (by decide) (fun _ => rfl) (by decide) 30 (fun ad f => lyD_30 cy ad f) (fun _ => rfl) (ids1 := [0, 1, 9, 10, 11, 12, 13, 2, 14, 15, 3, 16, 4, 17, 5, 18, 6, 19, 20, 7, 21, 22, 23, 40, 41, 42, 43, 44, 24, 25, 26, 27, 28, 29, 30]) rfl (by decide) (by decide) (okL_mem (lv := [some (rf 7), some (rf 6), some (rf 4), some (rf 1)]) (And.intro (fun _ => Or.inr (by decide)) (And.intro (fun _ => Or.inr (by decide)) (And.intro (fun _ => Or.inr (by decide)) (And.intro (fun _ => Or.inr (by decide)) trivial))))) (List.forall_mem_cons.mpr ⟨(fun _ => Or.inr (by decide)), fun _ h => absurd h List.not_mem_nil⟩) (by decide) (by decide) (by decide) dX1_init_80 (fun q μ58 hμ60 hcf => ?_)
  replace hf := of_lm hf hμ60
  have hCF := hcf hCF
  have hx := ext0_adu (q := q) hx (by decide : 30 ∉ [0, 1, 9, 10, 11, 12, 13, 2, 14, 15, 3, 16, 4, 17, 5, 18, 6, 19, 20, 7]) (by decide)
  refine V0_in (fun ho59 _ => ?_)
  refine q_putR C hmn 7 (by decide) rfl (fun _ => by decide) (lyD_7 cy _ _) 13 (lyD_7 cy _ _) rfl (Nat.le_of_ble_eq_true rfl) (by decide) (by decide) (inR_lit rfl) rfl in_X1 tyX1 tyX1_ok nmX1 (by decide) tw_212 rfl rfl rfl (fun _ => rfl) (fun _ => rfl) dX1_init_82 (fun μ61 hμ63 => ?_)
  replace hf := of_lm hf hμ63
  refine V0_in (fun ho62 _ => ?_)
  refine q_aload_n C 0 rfl rfl dX1_init_85 ?_
  refine q_iconst C dX1_init_86 ?_
  refine q_putf C 7 (by decide) rfl (fun _ => by decide) (lyD_7 cy _ _) 14 rfl (lyD_7 cy _ _) rfl (Nat.le_of_ble_eq_true rfl) (inR_lit rfl) rfl in_X1 tyX1 tyX1_ok nmX1 (by decide) tw_213 rfl rfl dX1_init_87 (fun μ64 hμ66 => ?_)
  replace hf := of_lm hf hμ66
  refine V0_in (fun ho65 _ => ?_)
  refine q_aload_n C 0 rfl rfl dX1_init_90 ?_
  refine q_iconst C dX1_init_91 ?_
  refine q_putf C 7 (by decide) rfl (fun _ => by decide) (lyD_7 cy _ _) 15 rfl (lyD_7 cy _ _) rfl (Nat.le_of_ble_eq_true rfl) (inR_lit rfl) rfl in_X1 tyX1 tyX1_ok nmX1 (by decide) tw_214 rfl rfl dX1_init_92 (fun μ67 hμ69 => ?_)
  replace hf := of_lm hf hμ69
  refine V0_in (fun ho68 _ => ?_)
  refine q_aload_n C 0 rfl rfl dX1_init_95 ?_
  refine q_iconst C dX1_init_96 ?_
  refine q_iconst C dX1_init_97 ?_
  refine q_mna C tw_197 tw_56 hAO.2.2 5 4 rfl rfl (by decide) (by decide) 31 45 (fun ad f => lyD_31 cy ad f) lyD_g45 rp_g45 (ids1 := [0, 1, 9, 10, 11, 12, 13, 2, 14, 15, 3, 16, 4, 17, 5, 18, 6, 19, 20, 7, 21, 22, 23, 40, 41, 42, 43, 44, 24, 25, 26, 27, 28, 29, 30, 31, 45, 46, 47, 48, 49]) rfl (by decide) (by decide) (by decide) (by decide) (okL_mem (lv := [some (rf 7), some (rf 6), some (rf 4), some (rf 1)]) (And.intro (fun _ => Or.inr (by decide)) (And.intro (fun _ => Or.inr (by decide)) (And.intro (fun _ => Or.inr (by decide)) (And.intro (fun _ => Or.inr (by decide)) trivial))))) (List.forall_mem_cons.mpr ⟨(fun _ => Or.inr (by decide)), fun _ h => absurd h List.not_mem_nil⟩) (by decide) (by decide) (by decide) (by decide) dX1_init_98 (fun ad1 μ70 hμ72 hx1 hcf => ?_)
  replace hf := of_lm hf hμ72
  have hCF := hcf hCF
  have hx := ext0_trans hx hx1 (by decide : ∀ a ∈ [0, 1, 9, 10, 11, 12, 13, 2, 14, 15, 3, 16, 4, 17, 5, 18, 6, 19, 20, 7], a ∈ [0, 1, 9, 10, 11, 12, 13, 2, 14, 15, 3, 16, 4, 17, 5, 18, 6, 19, 20, 7, 21, 22, 23, 40, 41, 42, 43, 44, 24, 25, 26, 27, 28, 29, 30])
  refine V0_in (fun ho71 _ => ?_)
  refine q_putR C hmn 7 (by decide) rfl (fun _ => by decide) (lyD_7 cy _ _) 16 (lyD_7 cy _ _) rfl (Nat.le_of_ble_eq_true rfl) (by decide) (by decide) (inR_lit rfl) rfl in_X1 tyX1 tyX1_ok nmX1 (by decide) tw_215 rfl rfl rfl (fun _ => rfl) (fun _ => rfl) dX1_init_102 (fun μ73 hμ75 => ?_)
  replace hf := of_lm hf hμ75
  refine V0_in (fun ho74 _ => ?_)
  refine q_aload_n C 0 rfl rfl dX1_init_105 ?_
  refine q_iconst C dX1_init_106 ?_
  refine q_putf C 7 (by decide) rfl (fun _ => by decide) (lyD_7 cy _ _) 17 rfl (lyD_7 cy _ _) rfl (Nat.le_of_ble_eq_true rfl) (inR_lit rfl) rfl in_X1 tyX1 tyX1_ok nmX1 (by decide) tw_216 rfl rfl dX1_init_107 (fun μ76 hμ78 => ?_)
  replace hf := of_lm hf hμ78
  refine V0_in (fun ho77 _ => ?_)
  refine q_aload_n C 0 rfl rfl dX1_init_110 ?_
  refine q_aload_n C 1 rfl rfl dX1_init_111 ?_
  refine q_putR C hmn 7 (by decide) rfl (fun _ => by decide) (lyD_7 cy _ _) 0 (lyD_7 cy _ _) rfl (Nat.le_of_ble_eq_true rfl) (by decide) (by decide) (inR_lit rfl) rfl in_X1 tyX1 tyX1_ok nmX1 (by decide) tw_199 rfl rfl rfl (fun _ => rfl) (fun _ => rfl) dX1_init_112 (fun μ79 hμ81 => ?_)
  replace hf := of_lm hf hμ81
  refine V0_in (fun ho80 _ => ?_)
  refine q_aload_n C 0 rfl rfl dX1_init_115 ?_
  refine q_aload_n C 2 rfl rfl dX1_init_116 ?_
  refine q_putR C hmn 7 (by decide) rfl (fun _ => by decide) (lyD_7 cy _ _) 1 (lyD_7 cy _ _) rfl (Nat.le_of_ble_eq_true rfl) (by decide) (by decide) (inR_lit rfl) rfl in_X1 tyX1 tyX1_ok nmX1 (by decide) tw_200 rfl rfl rfl (fun _ => rfl) (fun _ => rfl) dX1_init_117 (fun μ82 hμ84 => ?_)
  replace hf := of_lm hf hμ84
  refine V0_in (fun ho83 _ => ?_)
  refine q_aload_n C 0 rfl rfl dX1_init_120 ?_
  refine q_aload_n C 3 rfl rfl dX1_init_121 ?_
  refine q_putR C hmn 7 (by decide) rfl (fun _ => by decide) (lyD_7 cy _ _) 2 (lyD_7 cy _ _) rfl (Nat.le_of_ble_eq_true rfl) (by decide) (by decide) (inR_lit rfl) rfl in_X1 tyX1 tyX1_ok nmX1 (by decide) tw_201 rfl rfl rfl (fun _ => rfl) (fun _ => rfl) dX1_init_122 (fun μ85 hμ87 => ?_)
  replace hf := of_lm hf hμ87
  refine V0_in (fun ho86 _ => ?_)
  obtain ⟨-, rfl⟩ := of_ret hf
  exact q_vretM C rfl hx (by decide) (by decide) dX1_init_125
set_option maxHeartbeats 4000000 in
set_option maxRecDepth 100000 in
theorem c_X8_init {l : Launch} {D : va_G} {cy : Nat → ClassId} {ad : Nat → Nat} {μ μ1 : Mem} {r : Int} (hf : f_X8_init μ = some (r, μ1)) : K0N l D (tyl cy) (layD cy) [0, 1, 9, 10, 11, 12, 13, 2, 14, 15, 3, 16, 4, 17, 5, 18, 6, 19, 20, 7, 21, 22, 23, 40, 41, 42, 43, 44, 24, 25, 26, 27, 28, 29, 30, 31, 45, 46, 47, 48, 49, 8] ad 2 8 200 yX8_init cX8_init 2 [rf 8, rf 6] μ [0, 1, 9, 10, 11, 12, 13, 2, 14, 15, 3, 16, 4, 17, 5, 18, 6, 19, 20, 7, 21, 22, 23, 40, 41, 42, 43, 44, 24, 25, 26, 27, 28, 29, 30, 31, 45, 46, 47, 48, 49, 8, 32, 33, 34, 35, 36, 37, 38, 39] μ1 := by
  refine K0N.of (by decide) (Nat.le_of_ble_eq_true rfl) ?_
  intro p e s m args below meth c A C hCF hAO hmn
  unfold f_X8_init at hf
  have hx : ext0 [0, 1, 9, 10, 11, 12, 13, 2, 14, 15, 3, 16, 4, 17, 5, 18, 6, 19, 20, 7, 21, 22, 23, 40, 41, 42, 43, 44, 24, 25, 26, 27, 28, 29, 30, 31, 45, 46, 47, 48, 49, 8] ad ad := ⟨fun _ _ => rfl, fun _ _ => rfl⟩
  refine V0_in (fun ho0 _ => ?_)
  refine q_aload_n C 0 rfl rfl dX8_init_0 ?_
  refine q_objI C (by decide) tw_259 tw_25 tw_26 (by decide) (Nat.le_of_ble_eq_true rfl) dX8_init_1 ?_
  refine q_aload_n C 0 rfl rfl dX8_init_4 ?_
  refine q_bipush C dX8_init_5 rfl ?_
  refine q_newa C (atype := .int) (ty := .int) 0 rfl tw_56 rfl (fun _ h => h) 20 rfl (by decide) (fun _ => rfl) (by decide) 32 (fun ad f => lyD_32 cy ad f) (fun _ => rfl) (ids1 := [0, 1, 9, 10, 11, 12, 13, 2, 14, 15, 3, 16, 4, 17, 5, 18, 6, 19, 20, 7, 21, 22, 23, 40, 41, 42, 43, 44, 24, 25, 26, 27, 28, 29, 30, 31, 45, 46, 47, 48, 49, 8, 32]) rfl (by decide) (by decide) (okL_mem (lv := [some (rf 8), some (rf 6)]) (And.intro (fun _ => Or.inr (by decide)) (And.intro (fun _ => Or.inr (by decide)) trivial))) (List.forall_mem_cons.mpr ⟨(fun _ => Or.inr (by decide)), fun _ h => absurd h List.not_mem_nil⟩) (by decide) (by decide) (by decide) dX8_init_7 (fun q μ1 hμ3 hcf => ?_)
  replace hf := of_lm hf hμ3
  have hCF := hcf hCF
  have hx := ext0_adu (q := q) hx (by decide : 32 ∉ [0, 1, 9, 10, 11, 12, 13, 2, 14, 15, 3, 16, 4, 17, 5, 18, 6, 19, 20, 7, 21, 22, 23, 40, 41, 42, 43, 44, 24, 25, 26, 27, 28, 29, 30, 31, 45, 46, 47, 48, 49, 8]) (by decide)
  refine V0_in (fun ho2 _ => ?_)
  refine q_putR C hmn 8 (by decide) rfl (fun _ => by decide) (lyD_8 cy _ _) 1 (lyD_8 cy _ _) rfl (Nat.le_of_ble_eq_true rfl) (by decide) (by decide) (inR_lit rfl) rfl in_X8 tyX8 tyX8_ok nmX8 (by decide) tw_261 rfl rfl rfl (fun _ => rfl) (fun _ => rfl) dX8_init_9 (fun μ4 hμ6 => ?_)
  replace hf := of_lm hf hμ6
  refine V0_in (fun ho5 _ => ?_)
  refine q_aload_n C 0 rfl rfl dX8_init_12 ?_
  refine q_bipush C dX8_init_13 rfl ?_
  refine q_newa C (atype := .int) (ty := .int) 0 rfl tw_56 rfl (fun _ h => h) 20 rfl (by decide) (fun _ => rfl) (by decide) 33 (fun ad f => lyD_33 cy ad f) (fun _ => rfl) (ids1 := [0, 1, 9, 10, 11, 12, 13, 2, 14, 15, 3, 16, 4, 17, 5, 18, 6, 19, 20, 7, 21, 22, 23, 40, 41, 42, 43, 44, 24, 25, 26, 27, 28, 29, 30, 31, 45, 46, 47, 48, 49, 8, 32, 33]) rfl (by decide) (by decide) (okL_mem (lv := [some (rf 8), some (rf 6)]) (And.intro (fun _ => Or.inr (by decide)) (And.intro (fun _ => Or.inr (by decide)) trivial))) (List.forall_mem_cons.mpr ⟨(fun _ => Or.inr (by decide)), fun _ h => absurd h List.not_mem_nil⟩) (by decide) (by decide) (by decide) dX8_init_15 (fun q μ7 hμ9 hcf => ?_)
  replace hf := of_lm hf hμ9
  have hCF := hcf hCF
  have hx := ext0_adu (q := q) hx (by decide : 33 ∉ [0, 1, 9, 10, 11, 12, 13, 2, 14, 15, 3, 16, 4, 17, 5, 18, 6, 19, 20, 7, 21, 22, 23, 40, 41, 42, 43, 44, 24, 25, 26, 27, 28, 29, 30, 31, 45, 46, 47, 48, 49, 8]) (by decide)
  refine V0_in (fun ho8 _ => ?_)
  refine q_putR C hmn 8 (by decide) rfl (fun _ => by decide) (lyD_8 cy _ _) 2 (lyD_8 cy _ _) rfl (Nat.le_of_ble_eq_true rfl) (by decide) (by decide) (inR_lit rfl) rfl in_X8 tyX8 tyX8_ok nmX8 (by decide) tw_262 rfl rfl rfl (fun _ => rfl) (fun _ => rfl) dX8_init_17 (fun μ10 hμ12 => ?_)
  replace hf := of_lm hf hμ12
  refine V0_in (fun ho11 _ => ?_)
  refine q_aload_n C 0 rfl rfl dX8_init_20 ?_
  refine q_bipush C dX8_init_21 rfl ?_
  refine q_newa C (atype := .int) (ty := .int) 0 rfl tw_56 rfl (fun _ h => h) 20 rfl (by decide) (fun _ => rfl) (by decide) 34 (fun ad f => lyD_34 cy ad f) (fun _ => rfl) (ids1 := [0, 1, 9, 10, 11, 12, 13, 2, 14, 15, 3, 16, 4, 17, 5, 18, 6, 19, 20, 7, 21, 22, 23, 40, 41, 42, 43, 44, 24, 25, 26, 27, 28, 29, 30, 31, 45, 46, 47, 48, 49, 8, 32, 33, 34]) rfl (by decide) (by decide) (okL_mem (lv := [some (rf 8), some (rf 6)]) (And.intro (fun _ => Or.inr (by decide)) (And.intro (fun _ => Or.inr (by decide)) trivial))) (List.forall_mem_cons.mpr ⟨(fun _ => Or.inr (by decide)), fun _ h => absurd h List.not_mem_nil⟩) (by decide) (by decide) (by decide) dX8_init_23 (fun q μ13 hμ15 hcf => ?_)
  replace hf := of_lm hf hμ15
  have hCF := hcf hCF
  have hx := ext0_adu (q := q) hx (by decide : 34 ∉ [0, 1, 9, 10, 11, 12, 13, 2, 14, 15, 3, 16, 4, 17, 5, 18, 6, 19, 20, 7, 21, 22, 23, 40, 41, 42, 43, 44, 24, 25, 26, 27, 28, 29, 30, 31, 45, 46, 47, 48, 49, 8]) (by decide)
  refine V0_in (fun ho14 _ => ?_)
  refine q_putR C hmn 8 (by decide) rfl (fun _ => by decide) (lyD_8 cy _ _) 3 (lyD_8 cy _ _) rfl (Nat.le_of_ble_eq_true rfl) (by decide) (by decide) (inR_lit rfl) rfl in_X8 tyX8 tyX8_ok nmX8 (by decide) tw_263 rfl rfl rfl (fun _ => rfl) (fun _ => rfl) dX8_init_25 (fun μ16 hμ18 => ?_)
  replace hf := of_lm hf hμ18
  refine V0_in (fun ho17 _ => ?_)
  refine q_aload_n C 0 rfl rfl dX8_init_28 ?_
  refine q_bipush C dX8_init_29 rfl ?_
  refine q_newa C (atype := .int) (ty := .int) 0 rfl tw_56 rfl (fun _ h => h) 20 rfl (by decide) (fun _ => rfl) (by decide) 35 (fun ad f => lyD_35 cy ad f) (fun _ => rfl) (ids1 := [0, 1, 9, 10, 11, 12, 13, 2, 14, 15, 3, 16, 4, 17, 5, 18, 6, 19, 20, 7, 21, 22, 23, 40, 41, 42, 43, 44, 24, 25, 26, 27, 28, 29, 30, 31, 45, 46, 47, 48, 49, 8, 32, 33, 34, 35]) rfl (by decide) (by decide) (okL_mem (lv := [some (rf 8), some (rf 6)]) (And.intro (fun _ => Or.inr (by decide)) (And.intro (fun _ => Or.inr (by decide)) trivial))) (List.forall_mem_cons.mpr ⟨(fun _ => Or.inr (by decide)), fun _ h => absurd h List.not_mem_nil⟩) (by decide) (by decide) (by decide) dX8_init_31 (fun q μ19 hμ21 hcf => ?_)
  replace hf := of_lm hf hμ21
  have hCF := hcf hCF
  have hx := ext0_adu (q := q) hx (by decide : 35 ∉ [0, 1, 9, 10, 11, 12, 13, 2, 14, 15, 3, 16, 4, 17, 5, 18, 6, 19, 20, 7, 21, 22, 23, 40, 41, 42, 43, 44, 24, 25, 26, 27, 28, 29, 30, 31, 45, 46, 47, 48, 49, 8]) (by decide)
  refine V0_in (fun ho20 _ => ?_)
  refine q_putR C hmn 8 (by decide) rfl (fun _ => by decide) (lyD_8 cy _ _) 4 (lyD_8 cy _ _) rfl (Nat.le_of_ble_eq_true rfl) (by decide) (by decide) (inR_lit rfl) rfl in_X8 tyX8 tyX8_ok nmX8 (by decide) tw_264 rfl rfl rfl (fun _ => rfl) (fun _ => rfl) dX8_init_33 (fun μ22 hμ24 => ?_)
  replace hf := of_lm hf hμ24
  refine V0_in (fun ho23 _ => ?_)
  refine q_aload_n C 0 rfl rfl dX8_init_36 ?_
  refine q_iconst C dX8_init_37 ?_
  refine q_putf C 8 (by decide) rfl (fun _ => by decide) (lyD_8 cy _ _) 5 rfl (lyD_8 cy _ _) rfl (Nat.le_of_ble_eq_true rfl) (inR_lit rfl) rfl in_X8 tyX8 tyX8_ok nmX8 (by decide) tw_265 rfl rfl dX8_init_38 (fun μ25 hμ27 => ?_)
  replace hf := of_lm hf hμ27
  refine V0_in (fun ho26 _ => ?_)
  refine q_aload_n C 0 rfl rfl dX8_init_41 ?_
  refine q_iconst C dX8_init_42 ?_
  refine q_putf C 8 (by decide) rfl (fun _ => by decide) (lyD_8 cy _ _) 6 rfl (lyD_8 cy _ _) rfl (Nat.le_of_ble_eq_true rfl) (inR_lit rfl) rfl in_X8 tyX8 tyX8_ok nmX8 (by decide) tw_267 rfl rfl dX8_init_43 (fun μ28 hμ30 => ?_)
  replace hf := of_lm hf hμ30
  refine V0_in (fun ho29 _ => ?_)
  refine q_aload_n C 0 rfl rfl dX8_init_46 ?_
  refine q_iconst C dX8_init_47 ?_
  refine q_putf C 8 (by decide) rfl (fun _ => by decide) (lyD_8 cy _ _) 7 rfl (lyD_8 cy _ _) rfl (Nat.le_of_ble_eq_true rfl) (inR_lit rfl) rfl in_X8 tyX8 tyX8_ok nmX8 (by decide) tw_268 rfl rfl dX8_init_48 (fun μ31 hμ33 => ?_)
  replace hf := of_lm hf hμ33
  refine V0_in (fun ho32 _ => ?_)
  refine q_aload_n C 0 rfl rfl dX8_init_51 ?_
  refine q_bipush C dX8_init_52 rfl ?_
  refine q_newa C (atype := .int) (ty := .int) 0 rfl tw_56 rfl (fun _ h => h) 40 rfl (by decide) (fun _ => rfl) (by decide) 36 (fun ad f => lyD_36 cy ad f) (fun _ => rfl) (ids1 := [0, 1, 9, 10, 11, 12, 13, 2, 14, 15, 3, 16, 4, 17, 5, 18, 6, 19, 20, 7, 21, 22, 23, 40, 41, 42, 43, 44, 24, 25, 26, 27, 28, 29, 30, 31, 45, 46, 47, 48, 49, 8, 32, 33, 34, 35, 36]) rfl (by decide) (by decide) (okL_mem (lv := [some (rf 8), some (rf 6)]) (And.intro (fun _ => Or.inr (by decide)) (And.intro (fun _ => Or.inr (by decide)) trivial))) (List.forall_mem_cons.mpr ⟨(fun _ => Or.inr (by decide)), fun _ h => absurd h List.not_mem_nil⟩) (by decide) (by decide) (by decide) dX8_init_54 (fun q μ34 hμ36 hcf => ?_)
  replace hf := of_lm hf hμ36
  have hCF := hcf hCF
  have hx := ext0_adu (q := q) hx (by decide : 36 ∉ [0, 1, 9, 10, 11, 12, 13, 2, 14, 15, 3, 16, 4, 17, 5, 18, 6, 19, 20, 7, 21, 22, 23, 40, 41, 42, 43, 44, 24, 25, 26, 27, 28, 29, 30, 31, 45, 46, 47, 48, 49, 8]) (by decide)
  refine V0_in (fun ho35 _ => ?_)
  refine q_putR C hmn 8 (by decide) rfl (fun _ => by decide) (lyD_8 cy _ _) 8 (lyD_8 cy _ _) rfl (Nat.le_of_ble_eq_true rfl) (by decide) (by decide) (inR_lit rfl) rfl in_X8 tyX8 tyX8_ok nmX8 (by decide) tw_269 rfl rfl rfl (fun _ => rfl) (fun _ => rfl) dX8_init_56 (fun μ37 hμ39 => ?_)
  replace hf := of_lm hf hμ39
  refine V0_in (fun ho38 _ => ?_)
  refine q_aload_n C 0 rfl rfl dX8_init_59 ?_
  refine q_bipush C dX8_init_60 rfl ?_
  refine q_newa C (atype := .int) (ty := .int) 0 rfl tw_56 rfl (fun _ h => h) 40 rfl (by decide) (fun _ => rfl) (by decide) 37 (fun ad f => lyD_37 cy ad f) (fun _ => rfl) (ids1 := [0, 1, 9, 10, 11, 12, 13, 2, 14, 15, 3, 16, 4, 17, 5, 18, 6, 19, 20, 7, 21, 22, 23, 40, 41, 42, 43, 44, 24, 25, 26, 27, 28, 29, 30, 31, 45, 46, 47, 48, 49, 8, 32, 33, 34, 35, 36, 37]) rfl (by decide) (by decide) (okL_mem (lv := [some (rf 8), some (rf 6)]) (And.intro (fun _ => Or.inr (by decide)) (And.intro (fun _ => Or.inr (by decide)) trivial))) (List.forall_mem_cons.mpr ⟨(fun _ => Or.inr (by decide)), fun _ h => absurd h List.not_mem_nil⟩) (by decide) (by decide) (by decide) dX8_init_62 (fun q μ40 hμ42 hcf => ?_)
  replace hf := of_lm hf hμ42
  have hCF := hcf hCF
  have hx := ext0_adu (q := q) hx (by decide : 37 ∉ [0, 1, 9, 10, 11, 12, 13, 2, 14, 15, 3, 16, 4, 17, 5, 18, 6, 19, 20, 7, 21, 22, 23, 40, 41, 42, 43, 44, 24, 25, 26, 27, 28, 29, 30, 31, 45, 46, 47, 48, 49, 8]) (by decide)
  refine V0_in (fun ho41 _ => ?_)
  refine q_putR C hmn 8 (by decide) rfl (fun _ => by decide) (lyD_8 cy _ _) 9 (lyD_8 cy _ _) rfl (Nat.le_of_ble_eq_true rfl) (by decide) (by decide) (inR_lit rfl) rfl in_X8 tyX8 tyX8_ok nmX8 (by decide) tw_270 rfl rfl rfl (fun _ => rfl) (fun _ => rfl) dX8_init_64 (fun μ43 hμ45 => ?_)
  replace hf := of_lm hf hμ45
  refine V0_in (fun ho44 _ => ?_)
  refine q_aload_n C 0 rfl rfl dX8_init_67 ?_
  refine q_iconst C dX8_init_68 ?_
  refine q_putf C 8 (by decide) rfl (fun _ => by decide) (lyD_8 cy _ _) 10 rfl (lyD_8 cy _ _) rfl (Nat.le_of_ble_eq_true rfl) (inR_lit rfl) rfl in_X8 tyX8 tyX8_ok nmX8 (by decide) tw_271 rfl rfl dX8_init_69 (fun μ46 hμ48 => ?_)
  replace hf := of_lm hf hμ48
  refine V0_in (fun ho47 _ => ?_)
  refine q_aload_n C 0 rfl rfl dX8_init_72 ?_
  refine q_bipush C dX8_init_73 rfl ?_
  refine q_newa C (atype := .int) (ty := .int) 0 rfl tw_56 rfl (fun _ h => h) 20 rfl (by decide) (fun _ => rfl) (by decide) 38 (fun ad f => lyD_38 cy ad f) (fun _ => rfl) (ids1 := [0, 1, 9, 10, 11, 12, 13, 2, 14, 15, 3, 16, 4, 17, 5, 18, 6, 19, 20, 7, 21, 22, 23, 40, 41, 42, 43, 44, 24, 25, 26, 27, 28, 29, 30, 31, 45, 46, 47, 48, 49, 8, 32, 33, 34, 35, 36, 37, 38]) rfl (by decide) (by decide) (okL_mem (lv := [some (rf 8), some (rf 6)]) (And.intro (fun _ => Or.inr (by decide)) (And.intro (fun _ => Or.inr (by decide)) trivial))) (List.forall_mem_cons.mpr ⟨(fun _ => Or.inr (by decide)), fun _ h => absurd h List.not_mem_nil⟩) (by decide) (by decide) (by decide) dX8_init_75 (fun q μ49 hμ51 hcf => ?_)
  replace hf := of_lm hf hμ51
  have hCF := hcf hCF
  have hx := ext0_adu (q := q) hx (by decide : 38 ∉ [0, 1, 9, 10, 11, 12, 13, 2, 14, 15, 3, 16, 4, 17, 5, 18, 6, 19, 20, 7, 21, 22, 23, 40, 41, 42, 43, 44, 24, 25, 26, 27, 28, 29, 30, 31, 45, 46, 47, 48, 49, 8]) (by decide)
  refine V0_in (fun ho50 _ => ?_)
  refine q_putR C hmn 8 (by decide) rfl (fun _ => by decide) (lyD_8 cy _ _) 11 (lyD_8 cy _ _) rfl (Nat.le_of_ble_eq_true rfl) (by decide) (by decide) (inR_lit rfl) rfl in_X8 tyX8 tyX8_ok nmX8 (by decide) tw_272 rfl rfl rfl (fun _ => rfl) (fun _ => rfl) dX8_init_77 (fun μ52 hμ54 => ?_)
  replace hf := of_lm hf hμ54
  refine V0_in (fun ho53 _ => ?_)
  refine q_aload_n C 0 rfl rfl dX8_init_80 ?_
  refine q_bipush C dX8_init_81 rfl ?_
  refine q_newa C (atype := .int) (ty := .int) 0 rfl tw_56 rfl (fun _ h => h) 20 rfl (by decide) (fun _ => rfl) (by decide) 39 (fun ad f => lyD_39 cy ad f) (fun _ => rfl) (ids1 := [0, 1, 9, 10, 11, 12, 13, 2, 14, 15, 3, 16, 4, 17, 5, 18, 6, 19, 20, 7, 21, 22, 23, 40, 41, 42, 43, 44, 24, 25, 26, 27, 28, 29, 30, 31, 45, 46, 47, 48, 49, 8, 32, 33, 34, 35, 36, 37, 38, 39]) rfl (by decide) (by decide) (okL_mem (lv := [some (rf 8), some (rf 6)]) (And.intro (fun _ => Or.inr (by decide)) (And.intro (fun _ => Or.inr (by decide)) trivial))) (List.forall_mem_cons.mpr ⟨(fun _ => Or.inr (by decide)), fun _ h => absurd h List.not_mem_nil⟩) (by decide) (by decide) (by decide) dX8_init_83 (fun q μ55 hμ57 hcf => ?_)
  replace hf := of_lm hf hμ57
  have hCF := hcf hCF
  have hx := ext0_adu (q := q) hx (by decide : 39 ∉ [0, 1, 9, 10, 11, 12, 13, 2, 14, 15, 3, 16, 4, 17, 5, 18, 6, 19, 20, 7, 21, 22, 23, 40, 41, 42, 43, 44, 24, 25, 26, 27, 28, 29, 30, 31, 45, 46, 47, 48, 49, 8]) (by decide)
  refine V0_in (fun ho56 _ => ?_)
  refine q_putR C hmn 8 (by decide) rfl (fun _ => by decide) (lyD_8 cy _ _) 12 (lyD_8 cy _ _) rfl (Nat.le_of_ble_eq_true rfl) (by decide) (by decide) (inR_lit rfl) rfl in_X8 tyX8 tyX8_ok nmX8 (by decide) tw_273 rfl rfl rfl (fun _ => rfl) (fun _ => rfl) dX8_init_85 (fun μ58 hμ60 => ?_)
  replace hf := of_lm hf hμ60
  refine V0_in (fun ho59 _ => ?_)
  refine q_aload_n C 0 rfl rfl dX8_init_88 ?_
  refine q_aload_n C 1 rfl rfl dX8_init_89 ?_
  refine q_putR C hmn 8 (by decide) rfl (fun _ => by decide) (lyD_8 cy _ _) 0 (lyD_8 cy _ _) rfl (Nat.le_of_ble_eq_true rfl) (by decide) (by decide) (inR_lit rfl) rfl in_X8 tyX8 tyX8_ok nmX8 (by decide) tw_260 rfl rfl rfl (fun _ => rfl) (fun _ => rfl) dX8_init_90 (fun μ61 hμ63 => ?_)
  replace hf := of_lm hf hμ63
  refine V0_in (fun ho62 _ => ?_)
  obtain ⟨-, rfl⟩ := of_ret hf
  exact q_vretM C rfl hx (by decide) (by decide) dX8_init_93
set_option maxHeartbeats 4000000 in
set_option maxRecDepth 100000 in
theorem c_X10_init {l : Launch} {D : va_G} {cy : Nat → ClassId} {ad : Nat → Nat} {μ μ1 : Mem} {r : Int} (hf : f_X10_init μ = some (r, μ1)) : K0N l D (tyl cy) (layD cy) [0] ad 6 49 902 yX10_init cX10_init 1 [rf 0] μ [0, 1, 9, 10, 11, 12, 13, 2, 14, 15, 3, 16, 4, 17, 5, 18, 6, 19, 20, 7, 21, 22, 23, 40, 41, 42, 43, 44, 24, 25, 26, 27, 28, 29, 30, 31, 45, 46, 47, 48, 49, 8, 32, 33, 34, 35, 36, 37, 38, 39] μ1 := by
  refine K0N.of (by decide) (Nat.le_of_ble_eq_true rfl) ?_
  intro p e s m args below meth c A C hCF hAO hmn
  unfold f_X10_init at hf
  have hx : ext0 [0] ad ad := ⟨fun _ _ => rfl, fun _ _ => rfl⟩
  refine V0_in (fun ho0 _ => ?_)
  refine q_aload_n C 0 rfl rfl dX10_init_0 ?_
  refine q_objI C (by decide) tw_24 tw_25 tw_26 (by decide) (Nat.le_of_ble_eq_true rfl) dX10_init_1 ?_
  refine q_aload_n C 0 rfl rfl dX10_init_4 ?_
  refine q_new C (ci := 2) (N := 7) in_X2 tyX2 tyX2_ok rfl tw_27 tw_28 tw_2 1 (fun ad => lyD_1 cy ad _) (fun ad j hj => by
    match j, hj with
    | 0, _ => rfl
    | 1, _ => rfl
    | 2, _ => rfl
    | 3, _ => rfl
    | 4, _ => rfl
    | 5, _ => rfl
    | 6, _ => rfl
    | k + 7, h => exact absurd h (by omega)) (ids1 := [0, 1]) rfl (by decide) (by decide) (okL_mem (lv := [some (rf 0)]) (And.intro (fun _ => Or.inr (by decide)) trivial)) (List.forall_mem_cons.mpr ⟨(fun _ => Or.inr (by decide)), fun _ h => absurd h List.not_mem_nil⟩) (by decide) (by decide) (by decide) dX10_init_5 (fun q μ1 hμ3 hcf => ?_)
  replace hf := of_lm hf hμ3
  have hCF := hcf hCF
  have hx := ext0_adu (q := q) hx (by decide : 1 ∉ [0]) (by decide)
  refine V0_in (fun ho2 _ => ?_)
  refine q_dup C dX10_init_8 ?_
  obtain ⟨r4, μ5, hc6, hf⟩ := of_bd hf
  refine h_callIMN C hCF hAO (by decide) (As := []) 1 (by decide) rfl (fun _ => by decide) (c_X2_init hc6) ⟨by decide, by decide⟩ ⟨by decide, by decide⟩ tw_29 tw_31 tw_2 tw_30 rfl 0 (by decide) rfl (Nat.le_of_ble_eq_true rfl) dX10_init_9 (okL_mem (lv := [some (rf 0)]) (And.intro (fun _ => Or.inr (Or.inl (by decide))) trivial)) (List.forall_mem_cons.mpr ⟨(fun _ => Or.inr (Or.inl (by decide))), List.forall_mem_cons.mpr ⟨(fun _ => Or.inr (Or.inl (by decide))), fun _ h => absurd h List.not_mem_nil⟩⟩) (fun ad1 hx1 hcf => ?_)
  have hCF := hcf hCF
  have hx := ext0_trans hx hx1 (by decide : ∀ a ∈ [0], a ∈ [0, 1])
  refine V0_in (fun ho7 _ => ?_)
  refine q_putR C hmn 0 (by decide) rfl (fun _ => by decide) (lyD_0 cy _ _) 0 (lyD_0 cy _ _) rfl (Nat.le_of_ble_eq_true rfl) (by decide) (by decide) (inR_lit rfl) rfl in_X10 tyX10 tyX10_ok nmX10 (by decide) tw_301 rfl rfl rfl (fun _ => rfl) (fun _ => rfl) dX10_init_12 (fun μ8 hμ10 => ?_)
  replace hf := of_lm hf hμ10
  refine V0_in (fun ho9 _ => ?_)
  refine q_aload_n C 0 rfl rfl dX10_init_15 ?_
  refine q_new C (ci := 5) (N := 4) in_X5 tyX5 tyX5_ok rfl tw_57 tw_58 tw_3 2 (fun ad => lyD_2 cy ad _) (fun ad j hj => by
    match j, hj with
    | 0, _ => rfl
    | 1, _ => rfl
    | 2, _ => rfl
    | 3, _ => rfl
    | k + 4, h => exact absurd h (by omega)) (ids1 := [0, 1, 9, 10, 11, 12, 13, 2]) rfl (by decide) (by decide) (okL_mem (lv := [some (rf 0)]) (And.intro (fun _ => Or.inr (by decide)) trivial)) (List.forall_mem_cons.mpr ⟨(fun _ => Or.inr (by decide)), fun _ h => absurd h List.not_mem_nil⟩) (by decide) (by decide) (by decide) dX10_init_16 (fun q μ11 hμ13 hcf => ?_)
  replace hf := of_lm hf hμ13
  have hCF := hcf hCF
  have hx := ext0_adu (q := q) hx (by decide : 2 ∉ [0]) (by decide)
  refine V0_in (fun ho12 _ => ?_)
  refine q_dup C dX10_init_19 ?_
  obtain ⟨r14, μ15, hc16, hf⟩ := of_bd hf
  refine h_callIMN C hCF hAO (by decide) (As := []) 2 (by decide) rfl (fun _ => by decide) (c_X5_init hc16) ⟨by decide, by decide⟩ ⟨by decide, by decide⟩ tw_59 tw_61 tw_3 tw_60 rfl 0 (by decide) rfl (Nat.le_of_ble_eq_true rfl) dX10_init_20 (okL_mem (lv := [some (rf 0)]) (And.intro (fun _ => Or.inr (Or.inl (by decide))) trivial)) (List.forall_mem_cons.mpr ⟨(fun _ => Or.inr (Or.inl (by decide))), List.forall_mem_cons.mpr ⟨(fun _ => Or.inr (Or.inl (by decide))), fun _ h => absurd h List.not_mem_nil⟩⟩) (fun ad1 hx1 hcf => ?_)
  have hCF := hcf hCF
  have hx := ext0_trans hx hx1 (by decide : ∀ a ∈ [0], a ∈ [0, 1, 9, 10, 11, 12, 13, 2])
  refine V0_in (fun ho17 _ => ?_)
  refine q_putR C hmn 0 (by decide) rfl (fun _ => by decide) (lyD_0 cy _ _) 1 (lyD_0 cy _ _) rfl (Nat.le_of_ble_eq_true rfl) (by decide) (by decide) (inR_lit rfl) rfl in_X10 tyX10 tyX10_ok nmX10 (by decide) tw_302 rfl rfl rfl (fun _ => rfl) (fun _ => rfl) dX10_init_23 (fun μ18 hμ20 => ?_)
  replace hf := of_lm hf hμ20
  refine V0_in (fun ho19 _ => ?_)
  refine q_aload_n C 0 rfl rfl dX10_init_26 ?_
  refine q_new C (ci := 9) (N := 2) in_X9 tyX9 tyX9_ok rfl tw_79 tw_80 tw_4 3 (fun ad => lyD_3 cy ad _) (fun ad j hj => by
    match j, hj with
    | 0, _ => rfl
    | 1, _ => rfl
    | k + 2, h => exact absurd h (by omega)) (ids1 := [0, 1, 9, 10, 11, 12, 13, 2, 14, 15, 3]) rfl (by decide) (by decide) (okL_mem (lv := [some (rf 0)]) (And.intro (fun _ => Or.inr (by decide)) trivial)) (List.forall_mem_cons.mpr ⟨(fun _ => Or.inr (by decide)), fun _ h => absurd h List.not_mem_nil⟩) (by decide) (by decide) (by decide) dX10_init_27 (fun q μ21 hμ23 hcf => ?_)
  replace hf := of_lm hf hμ23
  have hCF := hcf hCF
  have hx := ext0_adu (q := q) hx (by decide : 3 ∉ [0]) (by decide)
  refine V0_in (fun ho22 _ => ?_)
  refine q_dup C dX10_init_30 ?_
  obtain ⟨r24, μ25, hc26, hf⟩ := of_bd hf
  refine h_callIMN C hCF hAO (by decide) (As := []) 3 (by decide) rfl (fun _ => by decide) (c_X9_init hc26) ⟨by decide, by decide⟩ ⟨by decide, by decide⟩ tw_81 tw_83 tw_4 tw_82 rfl 0 (by decide) rfl (Nat.le_of_ble_eq_true rfl) dX10_init_31 (okL_mem (lv := [some (rf 0)]) (And.intro (fun _ => Or.inr (Or.inl (by decide))) trivial)) (List.forall_mem_cons.mpr ⟨(fun _ => Or.inr (Or.inl (by decide))), List.forall_mem_cons.mpr ⟨(fun _ => Or.inr (Or.inl (by decide))), fun _ h => absurd h List.not_mem_nil⟩⟩) (fun ad1 hx1 hcf => ?_)
  have hCF := hcf hCF
  have hx := ext0_trans hx hx1 (by decide : ∀ a ∈ [0], a ∈ [0, 1, 9, 10, 11, 12, 13, 2, 14, 15, 3])
  refine V0_in (fun ho27 _ => ?_)
  refine q_putR C hmn 0 (by decide) rfl (fun _ => by decide) (lyD_0 cy _ _) 2 (lyD_0 cy _ _) rfl (Nat.le_of_ble_eq_true rfl) (by decide) (by decide) (inR_lit rfl) rfl in_X10 tyX10 tyX10_ok nmX10 (by decide) tw_303 rfl rfl rfl (fun _ => rfl) (fun _ => rfl) dX10_init_34 (fun μ28 hμ30 => ?_)
  replace hf := of_lm hf hμ30
  refine V0_in (fun ho29 _ => ?_)
  refine q_aload_n C 0 rfl rfl dX10_init_37 ?_
  refine q_new C (ci := 6) (N := 1) in_X6 tyX6 tyX6_ok rfl tw_95 tw_96 tw_5 4 (fun ad => lyD_4 cy ad _) (fun ad j hj => by
    match j, hj with
    | 0, _ => rfl
    | k + 1, h => exact absurd h (by omega)) (ids1 := [0, 1, 9, 10, 11, 12, 13, 2, 14, 15, 3, 16, 4]) rfl (by decide) (by decide) (okL_mem (lv := [some (rf 0)]) (And.intro (fun _ => Or.inr (by decide)) trivial)) (List.forall_mem_cons.mpr ⟨(fun _ => Or.inr (by decide)), fun _ h => absurd h List.not_mem_nil⟩) (by decide) (by decide) (by decide) dX10_init_38 (fun q μ31 hμ33 hcf => ?_)
  replace hf := of_lm hf hμ33
  have hCF := hcf hCF
  have hx := ext0_adu (q := q) hx (by decide : 4 ∉ [0]) (by decide)
  refine V0_in (fun ho32 _ => ?_)
  refine q_dup C dX10_init_41 ?_
  obtain ⟨r34, μ35, hc36, hf⟩ := of_bd hf
  refine h_callIM C hCF hAO (by decide) (As := []) 4 (by decide) rfl (fun _ => by decide) (c_X6_init hc36) ⟨by decide, by decide⟩ ⟨by decide, by decide⟩ tw_97 tw_99 tw_5 tw_98 rfl 0 (by decide) rfl (Nat.le_of_ble_eq_true rfl) dX10_init_42 (okL_mem (lv := [some (rf 0)]) (And.intro (fun _ => Or.inr (Or.inl (by decide))) trivial)) (List.forall_mem_cons.mpr ⟨(fun _ => Or.inr (Or.inl (by decide))), List.forall_mem_cons.mpr ⟨(fun _ => Or.inr (Or.inl (by decide))), fun _ h => absurd h List.not_mem_nil⟩⟩) (fun ad1 hx1 hcf => ?_)
  have hCF := hcf hCF
  have hx := ext0_trans hx hx1 (by decide : ∀ a ∈ [0], a ∈ [0, 1, 9, 10, 11, 12, 13, 2, 14, 15, 3, 16, 4])
  refine V0_in (fun ho37 _ => ?_)
  refine q_putR C hmn 0 (by decide) rfl (fun _ => by decide) (lyD_0 cy _ _) 3 (lyD_0 cy _ _) rfl (Nat.le_of_ble_eq_true rfl) (by decide) (by decide) (inR_lit rfl) rfl in_X10 tyX10 tyX10_ok nmX10 (by decide) tw_304 rfl rfl rfl (fun _ => rfl) (fun _ => rfl) dX10_init_45 (fun μ38 hμ40 => ?_)
  replace hf := of_lm hf hμ40
  refine V0_in (fun ho39 _ => ?_)
  refine q_aload_n C 0 rfl rfl dX10_init_48 ?_
  refine q_new C (ci := 7) (N := 6) in_X7 tyX7 tyX7_ok rfl tw_111 tw_112 tw_6 5 (fun ad => lyD_5 cy ad _) (fun ad j hj => by
    match j, hj with
    | 0, _ => rfl
    | 1, _ => rfl
    | 2, _ => rfl
    | 3, _ => rfl
    | 4, _ => rfl
    | 5, _ => rfl
    | k + 6, h => exact absurd h (by omega)) (ids1 := [0, 1, 9, 10, 11, 12, 13, 2, 14, 15, 3, 16, 4, 17, 5]) rfl (by decide) (by decide) (okL_mem (lv := [some (rf 0)]) (And.intro (fun _ => Or.inr (by decide)) trivial)) (List.forall_mem_cons.mpr ⟨(fun _ => Or.inr (by decide)), fun _ h => absurd h List.not_mem_nil⟩) (by decide) (by decide) (by decide) dX10_init_49 (fun q μ41 hμ43 hcf => ?_)
  replace hf := of_lm hf hμ43
  have hCF := hcf hCF
  have hx := ext0_adu (q := q) hx (by decide : 5 ∉ [0]) (by decide)
  refine V0_in (fun ho42 _ => ?_)
  refine q_dup C dX10_init_52 ?_
  refine q_aload_n C 0 rfl rfl dX10_init_53 ?_
  obtain ⟨g44, hf⟩ := of_g hf
  refine q_getf C 0 (by decide) rfl (fun _ => by decide) (lyD_0 cy _ _) rfl in_X10 2 (by decide) tw_303 (v := rf 3) (show some (rf (μ41 0 2)) = some (rf 3) from congrArg (fun z => some (rf z)) g44) dX10_init_54 ?_
  obtain ⟨r45, μ46, hc47, hf⟩ := of_bd hf
  refine h_callIM C hCF hAO (by decide) (As := [rf 3]) 5 (by decide) rfl (fun _ => by decide) (c_X7_init hc47) ⟨by decide, by decide⟩ ⟨by decide, by decide⟩ tw_113 tw_115 tw_6 tw_114 rfl 1 (by decide) rfl (Nat.le_of_ble_eq_true rfl) dX10_init_57 (okL_mem (lv := [some (rf 0)]) (And.intro (fun _ => Or.inr (Or.inl (by decide))) trivial)) (List.forall_mem_cons.mpr ⟨(fun _ => Or.inr (Or.inl (by decide))), List.forall_mem_cons.mpr ⟨(fun _ => Or.inr (Or.inl (by decide))), fun _ h => absurd h List.not_mem_nil⟩⟩) (fun ad1 hx1 hcf => ?_)
  have hCF := hcf hCF
  have hx := ext0_trans hx hx1 (by decide : ∀ a ∈ [0], a ∈ [0, 1, 9, 10, 11, 12, 13, 2, 14, 15, 3, 16, 4, 17, 5])
  refine V0_in (fun ho48 _ => ?_)
  refine q_putR C hmn 0 (by decide) rfl (fun _ => by decide) (lyD_0 cy _ _) 4 (lyD_0 cy _ _) rfl (Nat.le_of_ble_eq_true rfl) (by decide) (by decide) (inR_lit rfl) rfl in_X10 tyX10 tyX10_ok nmX10 (by decide) tw_305 rfl rfl rfl (fun _ => rfl) (fun _ => rfl) dX10_init_60 (fun μ49 hμ51 => ?_)
  replace hf := of_lm hf hμ51
  refine V0_in (fun ho50 _ => ?_)
  refine q_aload_n C 0 rfl rfl dX10_init_63 ?_
  refine q_new C (ci := 3) (N := 11) in_X3 tyX3 tyX3_ok rfl tw_138 tw_139 tw_7 6 (fun ad => lyD_6 cy ad _) (fun ad j hj => by
    match j, hj with
    | 0, _ => rfl
    | 1, _ => rfl
    | 2, _ => rfl
    | 3, _ => rfl
    | 4, _ => rfl
    | 5, _ => rfl
    | 6, _ => rfl
    | 7, _ => rfl
    | 8, _ => rfl
    | 9, _ => rfl
    | 10, _ => rfl
    | k + 11, h => exact absurd h (by omega)) (ids1 := [0, 1, 9, 10, 11, 12, 13, 2, 14, 15, 3, 16, 4, 17, 5, 18, 6]) rfl (by decide) (by decide) (okL_mem (lv := [some (rf 0)]) (And.intro (fun _ => Or.inr (by decide)) trivial)) (List.forall_mem_cons.mpr ⟨(fun _ => Or.inr (by decide)), fun _ h => absurd h List.not_mem_nil⟩) (by decide) (by decide) (by decide) dX10_init_64 (fun q μ52 hμ54 hcf => ?_)
  replace hf := of_lm hf hμ54
  have hCF := hcf hCF
  have hx := ext0_adu (q := q) hx (by decide : 6 ∉ [0]) (by decide)
  refine V0_in (fun ho53 _ => ?_)
  refine q_dup C dX10_init_67 ?_
  refine q_aload_n C 0 rfl rfl dX10_init_68 ?_
  obtain ⟨g55, hf⟩ := of_g hf
  refine q_getf C 0 (by decide) rfl (fun _ => by decide) (lyD_0 cy _ _) rfl in_X10 3 (by decide) tw_304 (v := rf 4) (show some (rf (μ52 0 3)) = some (rf 4) from congrArg (fun z => some (rf z)) g55) dX10_init_69 ?_
  refine q_aload_n C 0 rfl rfl dX10_init_72 ?_
  obtain ⟨g56, hf⟩ := of_g hf
  refine q_getf C 0 (by decide) rfl (fun _ => by decide) (lyD_0 cy _ _) rfl in_X10 0 (by decide) tw_301 (v := rf 1) (show some (rf (μ52 0 0)) = some (rf 1) from congrArg (fun z => some (rf z)) g56) dX10_init_73 ?_
  refine q_aload_n C 0 rfl rfl dX10_init_76 ?_
  obtain ⟨g57, hf⟩ := of_g hf
  refine q_getf C 0 (by decide) rfl (fun _ => by decide) (lyD_0 cy _ _) rfl in_X10 1 (by decide) tw_302 (v := rf 2) (show some (rf (μ52 0 1)) = some (rf 2) from congrArg (fun z => some (rf z)) g57) dX10_init_77 ?_
  obtain ⟨r58, μ59, hc60, hf⟩ := of_bd hf
  refine h_callIM C hCF hAO (by decide) (As := [rf 4, rf 1, rf 2]) 6 (by decide) rfl (fun _ => by decide) (c_X3_init hc60) ⟨by decide, by decide⟩ ⟨by decide, by decide⟩ tw_140 tw_142 tw_7 tw_141 rfl 3 (by decide) rfl (Nat.le_of_ble_eq_true rfl) dX10_init_80 (okL_mem (lv := [some (rf 0)]) (And.intro (fun _ => Or.inr (Or.inl (by decide))) trivial)) (List.forall_mem_cons.mpr ⟨(fun _ => Or.inr (Or.inl (by decide))), List.forall_mem_cons.mpr ⟨(fun _ => Or.inr (Or.inl (by decide))), fun _ h => absurd h List.not_mem_nil⟩⟩) (fun ad1 hx1 hcf => ?_)
  have hCF := hcf hCF
  have hx := ext0_trans hx hx1 (by decide : ∀ a ∈ [0], a ∈ [0, 1, 9, 10, 11, 12, 13, 2, 14, 15, 3, 16, 4, 17, 5, 18, 6])
  refine V0_in (fun ho61 _ => ?_)
  refine q_putR C hmn 0 (by decide) rfl (fun _ => by decide) (lyD_0 cy _ _) 5 (lyD_0 cy _ _) rfl (Nat.le_of_ble_eq_true rfl) (by decide) (by decide) (inR_lit rfl) rfl in_X10 tyX10 tyX10_ok nmX10 (by decide) tw_306 rfl rfl rfl (fun _ => rfl) (fun _ => rfl) dX10_init_83 (fun μ62 hμ64 => ?_)
  replace hf := of_lm hf hμ64
  refine V0_in (fun ho63 _ => ?_)
  refine q_aload_n C 0 rfl rfl dX10_init_86 ?_
  refine q_new C (ci := 1) (N := 18) in_X1 tyX1 tyX1_ok rfl tw_190 tw_191 tw_8 7 (fun ad => lyD_7 cy ad _) (fun ad j hj => by
    match j, hj with
    | 0, _ => rfl
    | 1, _ => rfl
    | 2, _ => rfl
    | 3, _ => rfl
    | 4, _ => rfl
    | 5, _ => rfl
    | 6, _ => rfl
    | 7, _ => rfl
    | 8, _ => rfl
    | 9, _ => rfl
    | 10, _ => rfl
    | 11, _ => rfl
    | 12, _ => rfl
    | 13, _ => rfl
    | 14, _ => rfl
    | 15, _ => rfl
    | 16, _ => rfl
    | 17, _ => rfl
    | k + 18, h => exact absurd h (by omega)) (ids1 := [0, 1, 9, 10, 11, 12, 13, 2, 14, 15, 3, 16, 4, 17, 5, 18, 6, 19, 20, 7]) rfl (by decide) (by decide) (okL_mem (lv := [some (rf 0)]) (And.intro (fun _ => Or.inr (by decide)) trivial)) (List.forall_mem_cons.mpr ⟨(fun _ => Or.inr (by decide)), fun _ h => absurd h List.not_mem_nil⟩) (by decide) (by decide) (by decide) dX10_init_87 (fun q μ65 hμ67 hcf => ?_)
  replace hf := of_lm hf hμ67
  have hCF := hcf hCF
  have hx := ext0_adu (q := q) hx (by decide : 7 ∉ [0]) (by decide)
  refine V0_in (fun ho66 _ => ?_)
  refine q_dup C dX10_init_90 ?_
  refine q_aload_n C 0 rfl rfl dX10_init_91 ?_
  obtain ⟨g68, hf⟩ := of_g hf
  refine q_getf C 0 (by decide) rfl (fun _ => by decide) (lyD_0 cy _ _) rfl in_X10 5 (by decide) tw_306 (v := rf 6) (show some (rf (μ65 0 5)) = some (rf 6) from congrArg (fun z => some (rf z)) g68) dX10_init_92 ?_
  refine q_aload_n C 0 rfl rfl dX10_init_95 ?_
  obtain ⟨g69, hf⟩ := of_g hf
  refine q_getf C 0 (by decide) rfl (fun _ => by decide) (lyD_0 cy _ _) rfl in_X10 3 (by decide) tw_304 (v := rf 4) (show some (rf (μ65 0 3)) = some (rf 4) from congrArg (fun z => some (rf z)) g69) dX10_init_96 ?_
  refine q_aload_n C 0 rfl rfl dX10_init_99 ?_
  obtain ⟨g70, hf⟩ := of_g hf
  refine q_getf C 0 (by decide) rfl (fun _ => by decide) (lyD_0 cy _ _) rfl in_X10 0 (by decide) tw_301 (v := rf 1) (show some (rf (μ65 0 0)) = some (rf 1) from congrArg (fun z => some (rf z)) g70) dX10_init_100 ?_
  obtain ⟨r71, μ72, hc73, hf⟩ := of_bd hf
  refine h_callIM C hCF hAO (by decide) (As := [rf 6, rf 4, rf 1]) 7 (by decide) rfl (fun _ => by decide) (c_X1_init hc73) ⟨by decide, by decide⟩ ⟨by decide, by decide⟩ tw_192 tw_194 tw_8 tw_193 rfl 3 (by decide) rfl (Nat.le_of_ble_eq_true rfl) dX10_init_103 (okL_mem (lv := [some (rf 0)]) (And.intro (fun _ => Or.inr (Or.inl (by decide))) trivial)) (List.forall_mem_cons.mpr ⟨(fun _ => Or.inr (Or.inl (by decide))), List.forall_mem_cons.mpr ⟨(fun _ => Or.inr (Or.inl (by decide))), fun _ h => absurd h List.not_mem_nil⟩⟩) (fun ad1 hx1 hcf => ?_)
  have hCF := hcf hCF
  have hx := ext0_trans hx hx1 (by decide : ∀ a ∈ [0], a ∈ [0, 1, 9, 10, 11, 12, 13, 2, 14, 15, 3, 16, 4, 17, 5, 18, 6, 19, 20, 7])
  refine V0_in (fun ho74 _ => ?_)
  refine q_putR C hmn 0 (by decide) rfl (fun _ => by decide) (lyD_0 cy _ _) 6 (lyD_0 cy _ _) rfl (Nat.le_of_ble_eq_true rfl) (by decide) (by decide) (inR_lit rfl) rfl in_X10 tyX10 tyX10_ok nmX10 (by decide) tw_307 rfl rfl rfl (fun _ => rfl) (fun _ => rfl) dX10_init_106 (fun μ75 hμ77 => ?_)
  replace hf := of_lm hf hμ77
  refine V0_in (fun ho76 _ => ?_)
  refine q_aload_n C 0 rfl rfl dX10_init_109 ?_
  refine q_new C (ci := 8) (N := 13) in_X8 tyX8 tyX8_ok rfl tw_254 tw_255 tw_9 8 (fun ad => lyD_8 cy ad _) (fun ad j hj => by
    match j, hj with
    | 0, _ => rfl
    | 1, _ => rfl
    | 2, _ => rfl
    | 3, _ => rfl
    | 4, _ => rfl
    | 5, _ => rfl
    | 6, _ => rfl
    | 7, _ => rfl
    | 8, _ => rfl
    | 9, _ => rfl
    | 10, _ => rfl
    | 11, _ => rfl
    | 12, _ => rfl
    | k + 13, h => exact absurd h (by omega)) (ids1 := [0, 1, 9, 10, 11, 12, 13, 2, 14, 15, 3, 16, 4, 17, 5, 18, 6, 19, 20, 7, 21, 22, 23, 40, 41, 42, 43, 44, 24, 25, 26, 27, 28, 29, 30, 31, 45, 46, 47, 48, 49, 8]) rfl (by decide) (by decide) (okL_mem (lv := [some (rf 0)]) (And.intro (fun _ => Or.inr (by decide)) trivial)) (List.forall_mem_cons.mpr ⟨(fun _ => Or.inr (by decide)), fun _ h => absurd h List.not_mem_nil⟩) (by decide) (by decide) (by decide) dX10_init_110 (fun q μ78 hμ80 hcf => ?_)
  replace hf := of_lm hf hμ80
  have hCF := hcf hCF
  have hx := ext0_adu (q := q) hx (by decide : 8 ∉ [0]) (by decide)
  refine V0_in (fun ho79 _ => ?_)
  refine q_dup C dX10_init_113 ?_
  refine q_aload_n C 0 rfl rfl dX10_init_114 ?_
  obtain ⟨g81, hf⟩ := of_g hf
  refine q_getf C 0 (by decide) rfl (fun _ => by decide) (lyD_0 cy _ _) rfl in_X10 5 (by decide) tw_306 (v := rf 6) (show some (rf (μ78 0 5)) = some (rf 6) from congrArg (fun z => some (rf z)) g81) dX10_init_115 ?_
  obtain ⟨r82, μ83, hc84, hf⟩ := of_bd hf
  refine h_callIM C hCF hAO (by decide) (As := [rf 6]) 8 (by decide) rfl (fun _ => by decide) (c_X8_init hc84) ⟨by decide, by decide⟩ ⟨by decide, by decide⟩ tw_256 tw_258 tw_9 tw_257 rfl 1 (by decide) rfl (Nat.le_of_ble_eq_true rfl) dX10_init_118 (okL_mem (lv := [some (rf 0)]) (And.intro (fun _ => Or.inr (Or.inl (by decide))) trivial)) (List.forall_mem_cons.mpr ⟨(fun _ => Or.inr (Or.inl (by decide))), List.forall_mem_cons.mpr ⟨(fun _ => Or.inr (Or.inl (by decide))), fun _ h => absurd h List.not_mem_nil⟩⟩) (fun ad1 hx1 hcf => ?_)
  have hCF := hcf hCF
  have hx := ext0_trans hx hx1 (by decide : ∀ a ∈ [0], a ∈ [0, 1, 9, 10, 11, 12, 13, 2, 14, 15, 3, 16, 4, 17, 5, 18, 6, 19, 20, 7, 21, 22, 23, 40, 41, 42, 43, 44, 24, 25, 26, 27, 28, 29, 30, 31, 45, 46, 47, 48, 49, 8])
  refine V0_in (fun ho85 _ => ?_)
  refine q_putR C hmn 0 (by decide) rfl (fun _ => by decide) (lyD_0 cy _ _) 7 (lyD_0 cy _ _) rfl (Nat.le_of_ble_eq_true rfl) (by decide) (by decide) (inR_lit rfl) rfl in_X10 tyX10 tyX10_ok nmX10 (by decide) tw_308 rfl rfl rfl (fun _ => rfl) (fun _ => rfl) dX10_init_121 (fun μ86 hμ88 => ?_)
  replace hf := of_lm hf hμ88
  refine V0_in (fun ho87 _ => ?_)
  obtain ⟨-, rfl⟩ := of_ret hf
  exact q_vretM C rfl hx (by decide) (by decide) dX10_init_124
set_option maxHeartbeats 4000000 in
set_option maxRecDepth 100000 in
theorem c_X11_withoutD {l : Launch} {D : va_G} {cy : Nat → ClassId} {ad : Nat → Nat} {μ μ1 : Mem} {a1 r : Int} (h1 : inR a1) (hf : f_X11_withoutD μ a1 = some (r, μ1)) : K0 aI0 l D (tyl cy) (layD cy) [0, 1, 9, 10, 11, 12, 13, 2, 14, 15, 3, 16, 4, 17, 5, 18, 6, 19, 20, 7, 21, 22, 23, 40, 41, 42, 43, 44, 24, 25, 26, 27, 28, 29, 30, 31, 45, 46, 47, 48, 49, 8, 32, 33, 34, 35, 36, 37, 38, 39, 300, 301, 302, 303, 304, 305, 306, 307, 308, 309, 310, 311, 312, 313, 314, 315, 316, 317, 318, 319, 320, 321, 322, 323, 324, 325, 326, 327, 328, 329, 330, 331, 332, 333, 334, 335, 336, 337, 338, 339, 340, 341, 342, 343, 344, 345, 346, 347, 348, 349, 350, 351, 352, 353, 354, 355, 356, 357, 358, 359, 360, 361, 362, 363, 364, 365, 366, 367, 368, 369, 370, 371, 372, 373, 374, 375, 376, 377] ad 2 yX11_without cX11_without 1 (some .int) [nu a1] μ r μ1 := by
  refine K0.of (by decide) (Nat.le_of_ble_eq_true rfl) ?_
  intro p e s m args below meth c A C hCF
  unfold f_X11_withoutD at hf
  refine V0_in (fun ho0 _ => ?_)
  refine q_iload_n C 0 rfl rfl dX11_without_0 ?_
  by_cases c1 : a1 = 4
  · replace hf := if_t hf c1
    refine q_swIn C 36 4 c1 (inR_lit rfl) (by decide) (by decide) rfl rfl dX11_without_1 ?_
    refine q_iconst C dX11_without_36 ?_
    obtain ⟨rfl, rfl⟩ := of_ret hf
    exact q_iret C rfl (inR_lit rfl) dX11_without_37
  replace hf := if_f hf c1
  by_cases c2 : a1 = 5
  · replace hf := if_t hf c2
    refine q_swIn C 38 5 c2 (inR_lit rfl) (by decide) (by decide) rfl rfl dX11_without_1 ?_
    refine q_iconst C dX11_without_38 ?_
    obtain ⟨rfl, rfl⟩ := of_ret hf
    exact q_iret C rfl (inR_lit rfl) dX11_without_39
  replace hf := if_f hf c2
  by_cases c3 : a1 = 6
  · replace hf := if_t hf c3
    refine q_swIn C 40 6 c3 (inR_lit rfl) (by decide) (by decide) rfl rfl dX11_without_1 ?_
    refine q_iconst C dX11_without_40 ?_
    obtain ⟨rfl, rfl⟩ := of_ret hf
    exact q_iret C rfl (inR_lit rfl) dX11_without_41
  replace hf := if_f hf c3
  by_cases c4 : a1 = 7
  · replace hf := if_t hf c4
    refine q_swIn C 42 7 c4 (inR_lit rfl) (by decide) (by decide) rfl rfl dX11_without_1 ?_
    refine q_sipush C dX11_without_42 rfl ?_
    obtain ⟨rfl, rfl⟩ := of_ret hf
    exact q_iret C rfl (inR_lit rfl) dX11_without_45
  replace hf := if_f hf c4
  by_cases c5 : a1 = 8
  · replace hf := if_t hf c5
    refine q_swIn C 46 8 c5 (inR_lit rfl) (by decide) (by decide) rfl rfl dX11_without_1 ?_
    refine q_bipush C dX11_without_46 rfl ?_
    obtain ⟨rfl, rfl⟩ := of_ret hf
    exact q_iret C rfl (inR_lit rfl) dX11_without_48
  replace hf := if_f hf c5
  refine q_swOut C 49 h1 (by omega) rfl dX11_without_1 ?_
  refine q_iconst C dX11_without_49 ?_
  obtain ⟨rfl, rfl⟩ := of_ret hf
  exact q_iret C rfl (inR_lit rfl) dX11_without_50
set_option maxHeartbeats 4000000 in
set_option maxRecDepth 100000 in
theorem w_X11_init_323 {p : Program} {l : Launch} {e : Env} {s : State} {m : MethodId} {args : Array Value} {below : List Frame} {meth : Method} {c : Code} {D : va_G} {cy : Nat → ClassId} {A : Nat → Prop} {ad : Nat → Nat} {ad0 : Nat → Nat} {r : Int} {μ1 : Mem} (C : Cx p s m args meth c D (tyl cy) A 2 cX11_init yX11_init.cls none) (hCF : CF ad A s) (hx : ext0 [0, 1, 9, 10, 11, 12, 13, 2, 14, 15, 3, 16, 4, 17, 5, 18, 6, 19, 20, 7, 21, 22, 23, 40, 41, 42, 43, 44, 24, 25, 26, 27, 28, 29, 30, 31, 45, 46, 47, 48, 49, 8, 32, 33, 34, 35, 36, 37, 38, 39, 300] ad0 ad) : ∀ n : Nat, ∀ (v1 : Int) (μ : Mem), inR v1 → f_X11_init_323 n v1 μ = some (r, μ1) → V0 p l e (rmn 4 77 5440) s m args below meth c 77 5440 (MQ below (aVM D (tyl cy) (layD cy) [0, 1, 9, 10, 11, 12, 13, 2, 14, 15, 3, 16, 4, 17, 5, 18, 6, 19, 20, 7, 21, 22, 23, 40, 41, 42, 43, 44, 24, 25, 26, 27, 28, 29, 30, 31, 45, 46, 47, 48, 49, 8, 32, 33, 34, 35, 36, 37, 38, 39, 300] ad0 A [0, 1, 9, 10, 11, 12, 13, 2, 14, 15, 3, 16, 4, 17, 5, 18, 6, 19, 20, 7, 21, 22, 23, 40, 41, 42, 43, 44, 24, 25, 26, 27, 28, 29, 30, 31, 45, 46, 47, 48, 49, 8, 32, 33, 34, 35, 36, 37, 38, 39, 300, 301, 302, 303, 304, 305, 306, 307, 308, 309, 310, 311, 312, 313, 314, 315, 316, 317, 318, 319, 320, 321, 322, 323, 324, 325, 326, 327, 328, 329, 330, 331, 332, 333, 334, 335, 336, 337, 338, 339, 340, 341, 342, 343, 344, 345, 346, 347, 348, 349, 350, 351, 352, 353, 354, 355, 356, 357, 358, 359, 360, 361, 362, 363, 364, 365, 366, 367, 368, 369, 370, 371, 372, 373, 374, 375, 376, 377] μ1) args s 77 5440 A) D A (layD cy) [0, 1, 9, 10, 11, 12, 13, 2, 14, 15, 3, 16, 4, 17, 5, 18, 6, 19, 20, 7, 21, 22, 23, 40, 41, 42, 43, 44, 24, 25, 26, 27, 28, 29, 30, 31, 45, 46, 47, 48, 49, 8, 32, 33, 34, 35, 36, 37, 38, 39, 300, 301, 302, 303, 304, 305, 306, 307, 308, 309, 310, 311, 312, 313, 314, 315, 316, 317, 318, 319, 320, 321, 322, 323, 324, 325, 326, 327, 328, 329, 330, 331, 332, 333, 334, 335, 336, 337, 338, 339, 340, 341, 342, 343, 344, 345, 346, 347, 348, 349, 350, 351, 352, 353, 354, 355, 356, 357, 358, 359, 360, 361, 362, 363, 364, 365, 366, 367, 368, 369, 370, 371, 372, 373, 374, 375, 376, 377] ad 2 μ 323 [some (rf 300), some (nu v1)] [] := by
  intro n
  induction n with
  | zero =>
    intro v1 μ hv1 hf
    cases hf
  | succ n ih =>
    intro v1 μ hv1 hf
    rw [f_X11_init_323_e] at hf
    refine V0_in (fun ho0 _ => ?_)
    refine q_iload_n C 1 rfl rfl dX11_init_323 ?_
    refine q_bipush C dX11_init_324 rfl ?_
    refine q_icmp_ge C 342 hv1 (inR_lit rfl) rfl dX11_init_326 (fun c1 => ?_) (fun c1 => ?_)
    · replace hf := if_t hf c1
      obtain ⟨-, rfl⟩ := of_ret hf
      exact q_vretM C rfl hx (by decide) (by decide) dX11_init_342
    · replace hf := if_f hf c1
      refine q_aload_n C 0 rfl rfl dX11_init_329 ?_
      obtain ⟨g2, hf⟩ := of_g hf
      refine q_getf C 300 (by decide) rfl (fun _ => by decide) (lyD_300 cy _ _) rfl in_X11 6 (by decide) tw_901 (v := rf 302) (show some (rf (μ 300 6)) = some (rf 302) from congrArg (fun z => some (rf z)) g2) dX11_init_330 ?_
      refine q_iload_n C 1 rfl rfl dX11_init_333 ?_
      refine q_iconst C dX11_init_334 ?_
      obtain ⟨g3, hf⟩ := of_g hf
      refine q_iast C 302 (by decide) rfl (fun _ => by decide) rfl 0 (cA := cy 0) (n := 6) (fun f => lyD_302 cy _ f) rfl g3 (by decide) (inR_lit rfl) dX11_init_335 (fun μ4 hμ6 => ?_)
      replace hf := of_lm hf hμ6
      refine V0_in (fun ho5 _ => ?_)
      refine q_iinc C rfl (lw := [some (rf 300), some (nu (v1 + 1))]) rfl (by decide) dX11_init_336 ?_
      refine q_goto C 323 rfl dX11_init_339 ?_
      obtain ⟨g7, hf⟩ := of_g hf
      exact V0_lw (ih (v1 + 1) μ4 g7 hf) (And.intro rfl (And.intro rfl trivial))
set_option maxHeartbeats 4000000 in
set_option maxRecDepth 100000 in
theorem w_X11_init_299 {p : Program} {l : Launch} {e : Env} {s : State} {m : MethodId} {args : Array Value} {below : List Frame} {meth : Method} {c : Code} {D : va_G} {cy : Nat → ClassId} {A : Nat → Prop} {ad : Nat → Nat} {ad0 : Nat → Nat} {r : Int} {μ1 : Mem} (C : Cx p s m args meth c D (tyl cy) A 2 cX11_init yX11_init.cls none) (hCF : CF ad A s) (hx : ext0 [0, 1, 9, 10, 11, 12, 13, 2, 14, 15, 3, 16, 4, 17, 5, 18, 6, 19, 20, 7, 21, 22, 23, 40, 41, 42, 43, 44, 24, 25, 26, 27, 28, 29, 30, 31, 45, 46, 47, 48, 49, 8, 32, 33, 34, 35, 36, 37, 38, 39, 300] ad0 ad) : ∀ n : Nat, ∀ (v1 : Int) (μ : Mem), inR v1 → f_X11_init_299 n v1 μ = some (r, μ1) → V0 p l e (rmn 4 77 5440) s m args below meth c 77 5440 (MQ below (aVM D (tyl cy) (layD cy) [0, 1, 9, 10, 11, 12, 13, 2, 14, 15, 3, 16, 4, 17, 5, 18, 6, 19, 20, 7, 21, 22, 23, 40, 41, 42, 43, 44, 24, 25, 26, 27, 28, 29, 30, 31, 45, 46, 47, 48, 49, 8, 32, 33, 34, 35, 36, 37, 38, 39, 300] ad0 A [0, 1, 9, 10, 11, 12, 13, 2, 14, 15, 3, 16, 4, 17, 5, 18, 6, 19, 20, 7, 21, 22, 23, 40, 41, 42, 43, 44, 24, 25, 26, 27, 28, 29, 30, 31, 45, 46, 47, 48, 49, 8, 32, 33, 34, 35, 36, 37, 38, 39, 300, 301, 302, 303, 304, 305, 306, 307, 308, 309, 310, 311, 312, 313, 314, 315, 316, 317, 318, 319, 320, 321, 322, 323, 324, 325, 326, 327, 328, 329, 330, 331, 332, 333, 334, 335, 336, 337, 338, 339, 340, 341, 342, 343, 344, 345, 346, 347, 348, 349, 350, 351, 352, 353, 354, 355, 356, 357, 358, 359, 360, 361, 362, 363, 364, 365, 366, 367, 368, 369, 370, 371, 372, 373, 374, 375, 376, 377] μ1) args s 77 5440 A) D A (layD cy) [0, 1, 9, 10, 11, 12, 13, 2, 14, 15, 3, 16, 4, 17, 5, 18, 6, 19, 20, 7, 21, 22, 23, 40, 41, 42, 43, 44, 24, 25, 26, 27, 28, 29, 30, 31, 45, 46, 47, 48, 49, 8, 32, 33, 34, 35, 36, 37, 38, 39, 300, 301, 302, 303, 304, 305, 306, 307, 308, 309, 310, 311, 312, 313, 314, 315, 316, 317, 318, 319, 320, 321, 322, 323, 324, 325, 326, 327, 328, 329, 330, 331, 332, 333, 334, 335, 336, 337, 338, 339, 340, 341, 342, 343, 344, 345, 346, 347, 348, 349, 350, 351, 352, 353, 354, 355, 356, 357, 358, 359, 360, 361, 362, 363, 364, 365, 366, 367, 368, 369, 370, 371, 372, 373, 374, 375, 376, 377] ad 2 μ 299 [some (rf 300), some (nu v1)] [] := by
  intro n
  induction n with
  | zero =>
    intro v1 μ hv1 hf
    cases hf
  | succ n ih =>
    intro v1 μ hv1 hf
    rw [f_X11_init_299_e] at hf
    refine V0_in (fun ho0 _ => ?_)
    refine q_iload_n C 1 rfl rfl dX11_init_299 ?_
    refine q_bipush C dX11_init_300 rfl ?_
    refine q_icmp_ge C 321 hv1 (inR_lit rfl) rfl dX11_init_302 (fun c1 => ?_) (fun c1 => ?_)
    · replace hf := if_t hf c1
      refine q_iconst C dX11_init_321 ?_
      refine q_istore_n C 1 (lw := [some (rf 300), some (nu 0)]) rfl rfl (by decide) dX11_init_322 ?_
      exact V0_lw (w_X11_init_323 C hCF hx 64 0 μ (inR_lit rfl) hf) (And.intro rfl (And.intro rfl trivial))
    · replace hf := if_f hf c1
      refine q_aload_n C 0 rfl rfl dX11_init_305 ?_
      obtain ⟨g2, hf⟩ := of_g hf
      refine q_getf C 300 (by decide) rfl (fun _ => by decide) (lyD_300 cy _ _) rfl in_X11 23 (by decide) tw_918 (v := rf 312) (show some (rf (μ 300 23)) = some (rf 312) from congrArg (fun z => some (rf z)) g2) dX11_init_306 ?_
      refine q_iload_n C 1 rfl rfl dX11_init_309 ?_
      refine q_iload_n C 1 rfl rfl dX11_init_310 ?_
      obtain ⟨r3, μ4, hc5, hf⟩ := of_bd hf
      refine h_callSI C hCF (As := [nu v1]) (c_X11_withoutD hv1 hc5) ⟨by decide, by decide⟩ ⟨by decide, by decide⟩ tw_893 tw_895 tw_10 tw_894 1 (by decide) rfl (Nat.le_of_ble_eq_true rfl) dX11_init_311 (fun hr7 => ?_)
      refine V0_in (fun ho6 _ => ?_)
      obtain ⟨g8, hf⟩ := of_g hf
      refine q_iast C 312 (by decide) rfl (fun _ => by decide) rfl 0 (cA := cy 0) (n := 9) (fun f => lyD_312 cy _ f) rfl g8 (by decide) hr7 dX11_init_314 (fun μ9 hμ11 => ?_)
      replace hf := of_lm hf hμ11
      refine V0_in (fun ho10 _ => ?_)
      refine q_iinc C rfl (lw := [some (rf 300), some (nu (v1 + 1))]) rfl (by decide) dX11_init_315 ?_
      refine q_goto C 299 rfl dX11_init_318 ?_
      obtain ⟨g12, hf⟩ := of_g hf
      exact V0_lw (ih (v1 + 1) μ9 g12 hf) (And.intro rfl (And.intro rfl trivial))
set_option maxHeartbeats 4000000 in
set_option maxRecDepth 100000 in
theorem c_X11_init {l : Launch} {D : va_G} {cy : Nat → ClassId} {ad : Nat → Nat} {μ μ1 : Mem} {r : Int} (hf : f_X11_init μ = some (r, μ1)) : K0N l D (tyl cy) (layD cy) [0, 1, 9, 10, 11, 12, 13, 2, 14, 15, 3, 16, 4, 17, 5, 18, 6, 19, 20, 7, 21, 22, 23, 40, 41, 42, 43, 44, 24, 25, 26, 27, 28, 29, 30, 31, 45, 46, 47, 48, 49, 8, 32, 33, 34, 35, 36, 37, 38, 39, 300] ad 4 77 5440 yX11_init cX11_init 2 [rf 300] μ [0, 1, 9, 10, 11, 12, 13, 2, 14, 15, 3, 16, 4, 17, 5, 18, 6, 19, 20, 7, 21, 22, 23, 40, 41, 42, 43, 44, 24, 25, 26, 27, 28, 29, 30, 31, 45, 46, 47, 48, 49, 8, 32, 33, 34, 35, 36, 37, 38, 39, 300, 301, 302, 303, 304, 305, 306, 307, 308, 309, 310, 311, 312, 313, 314, 315, 316, 317, 318, 319, 320, 321, 322, 323, 324, 325, 326, 327, 328, 329, 330, 331, 332, 333, 334, 335, 336, 337, 338, 339, 340, 341, 342, 343, 344, 345, 346, 347, 348, 349, 350, 351, 352, 353, 354, 355, 356, 357, 358, 359, 360, 361, 362, 363, 364, 365, 366, 367, 368, 369, 370, 371, 372, 373, 374, 375, 376, 377] μ1 := by
  refine K0N.of (by decide) (Nat.le_of_ble_eq_true rfl) ?_
  intro p e s m args below meth c A C hCF hAO hmn
  unfold f_X11_init at hf
  have hx : ext0 [0, 1, 9, 10, 11, 12, 13, 2, 14, 15, 3, 16, 4, 17, 5, 18, 6, 19, 20, 7, 21, 22, 23, 40, 41, 42, 43, 44, 24, 25, 26, 27, 28, 29, 30, 31, 45, 46, 47, 48, 49, 8, 32, 33, 34, 35, 36, 37, 38, 39, 300] ad ad := ⟨fun _ _ => rfl, fun _ _ => rfl⟩
  refine V0_in (fun ho0 _ => ?_)
  refine q_aload_n C 0 rfl rfl dX11_init_0 ?_
  refine q_objI C (by decide) tw_891 tw_25 tw_26 (by decide) (Nat.le_of_ble_eq_true rfl) dX11_init_1 ?_
  refine q_aload_n C 0 rfl rfl dX11_init_4 ?_
  refine q_bipush C dX11_init_5 rfl ?_
  refine q_newa C (atype := .int) (ty := .int) 0 rfl tw_56 rfl (fun _ h => h) 6 rfl (by decide) (fun _ => rfl) (by decide) 301 (fun ad f => lyD_301 cy ad f) (fun _ => rfl) (ids1 := [0, 1, 9, 10, 11, 12, 13, 2, 14, 15, 3, 16, 4, 17, 5, 18, 6, 19, 20, 7, 21, 22, 23, 40, 41, 42, 43, 44, 24, 25, 26, 27, 28, 29, 30, 31, 45, 46, 47, 48, 49, 8, 32, 33, 34, 35, 36, 37, 38, 39, 300, 301]) rfl (by decide) (by decide) (okL_mem (lv := [some (rf 300), none]) (And.intro (fun _ => Or.inr (by decide)) trivial)) (List.forall_mem_cons.mpr ⟨(fun _ => Or.inr (by decide)), fun _ h => absurd h List.not_mem_nil⟩) (by decide) (by decide) (by decide) dX11_init_7 (fun q μ1 hμ3 hcf => ?_)
  replace hf := of_lm hf hμ3
  have hCF := hcf hCF
  have hx := ext0_adu (q := q) hx (by decide : 301 ∉ [0, 1, 9, 10, 11, 12, 13, 2, 14, 15, 3, 16, 4, 17, 5, 18, 6, 19, 20, 7, 21, 22, 23, 40, 41, 42, 43, 44, 24, 25, 26, 27, 28, 29, 30, 31, 45, 46, 47, 48, 49, 8, 32, 33, 34, 35, 36, 37, 38, 39, 300]) (by decide)
  refine V0_in (fun ho2 _ => ?_)
  refine q_putR C hmn 300 (by decide) rfl (fun _ => by decide) (lyD_300 cy _ _) 5 (lyD_300 cy _ _) rfl (Nat.le_of_ble_eq_true rfl) (by decide) (by decide) (inR_lit rfl) rfl in_X11 tyX11 tyX11_ok nmX11 (by decide) tw_900 rfl rfl rfl (fun _ => rfl) (fun _ => rfl) dX11_init_9 (fun μ4 hμ6 => ?_)
  replace hf := of_lm hf hμ6
  refine V0_in (fun ho5 _ => ?_)
  refine q_aload_n C 0 rfl rfl dX11_init_12 ?_
  refine q_bipush C dX11_init_13 rfl ?_
  refine q_newa C (atype := .int) (ty := .int) 0 rfl tw_56 rfl (fun _ h => h) 6 rfl (by decide) (fun _ => rfl) (by decide) 302 (fun ad f => lyD_302 cy ad f) (fun _ => rfl) (ids1 := [0, 1, 9, 10, 11, 12, 13, 2, 14, 15, 3, 16, 4, 17, 5, 18, 6, 19, 20, 7, 21, 22, 23, 40, 41, 42, 43, 44, 24, 25, 26, 27, 28, 29, 30, 31, 45, 46, 47, 48, 49, 8, 32, 33, 34, 35, 36, 37, 38, 39, 300, 301, 302]) rfl (by decide) (by decide) (okL_mem (lv := [some (rf 300), none]) (And.intro (fun _ => Or.inr (by decide)) trivial)) (List.forall_mem_cons.mpr ⟨(fun _ => Or.inr (by decide)), fun _ h => absurd h List.not_mem_nil⟩) (by decide) (by decide) (by decide) dX11_init_15 (fun q μ7 hμ9 hcf => ?_)
  replace hf := of_lm hf hμ9
  have hCF := hcf hCF
  have hx := ext0_adu (q := q) hx (by decide : 302 ∉ [0, 1, 9, 10, 11, 12, 13, 2, 14, 15, 3, 16, 4, 17, 5, 18, 6, 19, 20, 7, 21, 22, 23, 40, 41, 42, 43, 44, 24, 25, 26, 27, 28, 29, 30, 31, 45, 46, 47, 48, 49, 8, 32, 33, 34, 35, 36, 37, 38, 39, 300]) (by decide)
  refine V0_in (fun ho8 _ => ?_)
  refine q_putR C hmn 300 (by decide) rfl (fun _ => by decide) (lyD_300 cy _ _) 6 (lyD_300 cy _ _) rfl (Nat.le_of_ble_eq_true rfl) (by decide) (by decide) (inR_lit rfl) rfl in_X11 tyX11 tyX11_ok nmX11 (by decide) tw_901 rfl rfl rfl (fun _ => rfl) (fun _ => rfl) dX11_init_17 (fun μ10 hμ12 => ?_)
  replace hf := of_lm hf hμ12
  refine V0_in (fun ho11 _ => ?_)
  refine q_aload_n C 0 rfl rfl dX11_init_20 ?_
  refine q_bipush C dX11_init_21 rfl ?_
  refine q_newa C (atype := .int) (ty := .int) 0 rfl tw_56 rfl (fun _ h => h) 6 rfl (by decide) (fun _ => rfl) (by decide) 303 (fun ad f => lyD_303 cy ad f) (fun _ => rfl) (ids1 := [0, 1, 9, 10, 11, 12, 13, 2, 14, 15, 3, 16, 4, 17, 5, 18, 6, 19, 20, 7, 21, 22, 23, 40, 41, 42, 43, 44, 24, 25, 26, 27, 28, 29, 30, 31, 45, 46, 47, 48, 49, 8, 32, 33, 34, 35, 36, 37, 38, 39, 300, 301, 302, 303]) rfl (by decide) (by decide) (okL_mem (lv := [some (rf 300), none]) (And.intro (fun _ => Or.inr (by decide)) trivial)) (List.forall_mem_cons.mpr ⟨(fun _ => Or.inr (by decide)), fun _ h => absurd h List.not_mem_nil⟩) (by decide) (by decide) (by decide) dX11_init_23 (fun q μ13 hμ15 hcf => ?_)
  replace hf := of_lm hf hμ15
  have hCF := hcf hCF
  have hx := ext0_adu (q := q) hx (by decide : 303 ∉ [0, 1, 9, 10, 11, 12, 13, 2, 14, 15, 3, 16, 4, 17, 5, 18, 6, 19, 20, 7, 21, 22, 23, 40, 41, 42, 43, 44, 24, 25, 26, 27, 28, 29, 30, 31, 45, 46, 47, 48, 49, 8, 32, 33, 34, 35, 36, 37, 38, 39, 300]) (by decide)
  refine V0_in (fun ho14 _ => ?_)
  refine q_putR C hmn 300 (by decide) rfl (fun _ => by decide) (lyD_300 cy _ _) 7 (lyD_300 cy _ _) rfl (Nat.le_of_ble_eq_true rfl) (by decide) (by decide) (inR_lit rfl) rfl in_X11 tyX11 tyX11_ok nmX11 (by decide) tw_902 rfl rfl rfl (fun _ => rfl) (fun _ => rfl) dX11_init_25 (fun μ16 hμ18 => ?_)
  replace hf := of_lm hf hμ18
  refine V0_in (fun ho17 _ => ?_)
  refine q_aload_n C 0 rfl rfl dX11_init_28 ?_
  refine q_bipush C dX11_init_29 rfl ?_
  refine q_newa C (atype := .int) (ty := .int) 0 rfl tw_56 rfl (fun _ h => h) 6 rfl (by decide) (fun _ => rfl) (by decide) 304 (fun ad f => lyD_304 cy ad f) (fun _ => rfl) (ids1 := [0, 1, 9, 10, 11, 12, 13, 2, 14, 15, 3, 16, 4, 17, 5, 18, 6, 19, 20, 7, 21, 22, 23, 40, 41, 42, 43, 44, 24, 25, 26, 27, 28, 29, 30, 31, 45, 46, 47, 48, 49, 8, 32, 33, 34, 35, 36, 37, 38, 39, 300, 301, 302, 303, 304]) rfl (by decide) (by decide) (okL_mem (lv := [some (rf 300), none]) (And.intro (fun _ => Or.inr (by decide)) trivial)) (List.forall_mem_cons.mpr ⟨(fun _ => Or.inr (by decide)), fun _ h => absurd h List.not_mem_nil⟩) (by decide) (by decide) (by decide) dX11_init_31 (fun q μ19 hμ21 hcf => ?_)
  replace hf := of_lm hf hμ21
  have hCF := hcf hCF
  have hx := ext0_adu (q := q) hx (by decide : 304 ∉ [0, 1, 9, 10, 11, 12, 13, 2, 14, 15, 3, 16, 4, 17, 5, 18, 6, 19, 20, 7, 21, 22, 23, 40, 41, 42, 43, 44, 24, 25, 26, 27, 28, 29, 30, 31, 45, 46, 47, 48, 49, 8, 32, 33, 34, 35, 36, 37, 38, 39, 300]) (by decide)
  refine V0_in (fun ho20 _ => ?_)
  refine q_putR C hmn 300 (by decide) rfl (fun _ => by decide) (lyD_300 cy _ _) 8 (lyD_300 cy _ _) rfl (Nat.le_of_ble_eq_true rfl) (by decide) (by decide) (inR_lit rfl) rfl in_X11 tyX11 tyX11_ok nmX11 (by decide) tw_903 rfl rfl rfl (fun _ => rfl) (fun _ => rfl) dX11_init_33 (fun μ22 hμ24 => ?_)
  replace hf := of_lm hf hμ24
  refine V0_in (fun ho23 _ => ?_)
  refine q_aload_n C 0 rfl rfl dX11_init_36 ?_
  refine q_bipush C dX11_init_37 rfl ?_
  refine q_newa C (atype := .int) (ty := .int) 0 rfl tw_56 rfl (fun _ h => h) 6 rfl (by decide) (fun _ => rfl) (by decide) 305 (fun ad f => lyD_305 cy ad f) (fun _ => rfl) (ids1 := [0, 1, 9, 10, 11, 12, 13, 2, 14, 15, 3, 16, 4, 17, 5, 18, 6, 19, 20, 7, 21, 22, 23, 40, 41, 42, 43, 44, 24, 25, 26, 27, 28, 29, 30, 31, 45, 46, 47, 48, 49, 8, 32, 33, 34, 35, 36, 37, 38, 39, 300, 301, 302, 303, 304, 305]) rfl (by decide) (by decide) (okL_mem (lv := [some (rf 300), none]) (And.intro (fun _ => Or.inr (by decide)) trivial)) (List.forall_mem_cons.mpr ⟨(fun _ => Or.inr (by decide)), fun _ h => absurd h List.not_mem_nil⟩) (by decide) (by decide) (by decide) dX11_init_39 (fun q μ25 hμ27 hcf => ?_)
  replace hf := of_lm hf hμ27
  have hCF := hcf hCF
  have hx := ext0_adu (q := q) hx (by decide : 305 ∉ [0, 1, 9, 10, 11, 12, 13, 2, 14, 15, 3, 16, 4, 17, 5, 18, 6, 19, 20, 7, 21, 22, 23, 40, 41, 42, 43, 44, 24, 25, 26, 27, 28, 29, 30, 31, 45, 46, 47, 48, 49, 8, 32, 33, 34, 35, 36, 37, 38, 39, 300]) (by decide)
  refine V0_in (fun ho26 _ => ?_)
  refine q_putR C hmn 300 (by decide) rfl (fun _ => by decide) (lyD_300 cy _ _) 9 (lyD_300 cy _ _) rfl (Nat.le_of_ble_eq_true rfl) (by decide) (by decide) (inR_lit rfl) rfl in_X11 tyX11 tyX11_ok nmX11 (by decide) tw_904 rfl rfl rfl (fun _ => rfl) (fun _ => rfl) dX11_init_41 (fun μ28 hμ30 => ?_)
  replace hf := of_lm hf hμ30
  refine V0_in (fun ho29 _ => ?_)
  refine q_aload_n C 0 rfl rfl dX11_init_44 ?_
  refine q_bipush C dX11_init_45 rfl ?_
  refine q_newa C (atype := .int) (ty := .int) 0 rfl tw_56 rfl (fun _ h => h) 40 rfl (by decide) (fun _ => rfl) (by decide) 306 (fun ad f => lyD_306 cy ad f) (fun _ => rfl) (ids1 := [0, 1, 9, 10, 11, 12, 13, 2, 14, 15, 3, 16, 4, 17, 5, 18, 6, 19, 20, 7, 21, 22, 23, 40, 41, 42, 43, 44, 24, 25, 26, 27, 28, 29, 30, 31, 45, 46, 47, 48, 49, 8, 32, 33, 34, 35, 36, 37, 38, 39, 300, 301, 302, 303, 304, 305, 306]) rfl (by decide) (by decide) (okL_mem (lv := [some (rf 300), none]) (And.intro (fun _ => Or.inr (by decide)) trivial)) (List.forall_mem_cons.mpr ⟨(fun _ => Or.inr (by decide)), fun _ h => absurd h List.not_mem_nil⟩) (by decide) (by decide) (by decide) dX11_init_47 (fun q μ31 hμ33 hcf => ?_)
  replace hf := of_lm hf hμ33
  have hCF := hcf hCF
  have hx := ext0_adu (q := q) hx (by decide : 306 ∉ [0, 1, 9, 10, 11, 12, 13, 2, 14, 15, 3, 16, 4, 17, 5, 18, 6, 19, 20, 7, 21, 22, 23, 40, 41, 42, 43, 44, 24, 25, 26, 27, 28, 29, 30, 31, 45, 46, 47, 48, 49, 8, 32, 33, 34, 35, 36, 37, 38, 39, 300]) (by decide)
  refine V0_in (fun ho32 _ => ?_)
  refine q_putR C hmn 300 (by decide) rfl (fun _ => by decide) (lyD_300 cy _ _) 10 (lyD_300 cy _ _) rfl (Nat.le_of_ble_eq_true rfl) (by decide) (by decide) (inR_lit rfl) rfl in_X11 tyX11 tyX11_ok nmX11 (by decide) tw_905 rfl rfl rfl (fun _ => rfl) (fun _ => rfl) dX11_init_49 (fun μ34 hμ36 => ?_)
  replace hf := of_lm hf hμ36
  refine V0_in (fun ho35 _ => ?_)
  refine q_aload_n C 0 rfl rfl dX11_init_52 ?_
  refine q_bipush C dX11_init_53 rfl ?_
  refine q_newa C (atype := .int) (ty := .int) 0 rfl tw_56 rfl (fun _ h => h) 40 rfl (by decide) (fun _ => rfl) (by decide) 307 (fun ad f => lyD_307 cy ad f) (fun _ => rfl) (ids1 := [0, 1, 9, 10, 11, 12, 13, 2, 14, 15, 3, 16, 4, 17, 5, 18, 6, 19, 20, 7, 21, 22, 23, 40, 41, 42, 43, 44, 24, 25, 26, 27, 28, 29, 30, 31, 45, 46, 47, 48, 49, 8, 32, 33, 34, 35, 36, 37, 38, 39, 300, 301, 302, 303, 304, 305, 306, 307]) rfl (by decide) (by decide) (okL_mem (lv := [some (rf 300), none]) (And.intro (fun _ => Or.inr (by decide)) trivial)) (List.forall_mem_cons.mpr ⟨(fun _ => Or.inr (by decide)), fun _ h => absurd h List.not_mem_nil⟩) (by decide) (by decide) (by decide) dX11_init_55 (fun q μ37 hμ39 hcf => ?_)
  replace hf := of_lm hf hμ39
  have hCF := hcf hCF
  have hx := ext0_adu (q := q) hx (by decide : 307 ∉ [0, 1, 9, 10, 11, 12, 13, 2, 14, 15, 3, 16, 4, 17, 5, 18, 6, 19, 20, 7, 21, 22, 23, 40, 41, 42, 43, 44, 24, 25, 26, 27, 28, 29, 30, 31, 45, 46, 47, 48, 49, 8, 32, 33, 34, 35, 36, 37, 38, 39, 300]) (by decide)
  refine V0_in (fun ho38 _ => ?_)
  refine q_putR C hmn 300 (by decide) rfl (fun _ => by decide) (lyD_300 cy _ _) 11 (lyD_300 cy _ _) rfl (Nat.le_of_ble_eq_true rfl) (by decide) (by decide) (inR_lit rfl) rfl in_X11 tyX11 tyX11_ok nmX11 (by decide) tw_906 rfl rfl rfl (fun _ => rfl) (fun _ => rfl) dX11_init_57 (fun μ40 hμ42 => ?_)
  replace hf := of_lm hf hμ42
  refine V0_in (fun ho41 _ => ?_)
  refine q_aload_n C 0 rfl rfl dX11_init_60 ?_
  refine q_bipush C dX11_init_61 rfl ?_
  refine q_newa C (atype := .int) (ty := .int) 0 rfl tw_56 rfl (fun _ h => h) 40 rfl (by decide) (fun _ => rfl) (by decide) 308 (fun ad f => lyD_308 cy ad f) (fun _ => rfl) (ids1 := [0, 1, 9, 10, 11, 12, 13, 2, 14, 15, 3, 16, 4, 17, 5, 18, 6, 19, 20, 7, 21, 22, 23, 40, 41, 42, 43, 44, 24, 25, 26, 27, 28, 29, 30, 31, 45, 46, 47, 48, 49, 8, 32, 33, 34, 35, 36, 37, 38, 39, 300, 301, 302, 303, 304, 305, 306, 307, 308]) rfl (by decide) (by decide) (okL_mem (lv := [some (rf 300), none]) (And.intro (fun _ => Or.inr (by decide)) trivial)) (List.forall_mem_cons.mpr ⟨(fun _ => Or.inr (by decide)), fun _ h => absurd h List.not_mem_nil⟩) (by decide) (by decide) (by decide) dX11_init_63 (fun q μ43 hμ45 hcf => ?_)
  replace hf := of_lm hf hμ45
  have hCF := hcf hCF
  have hx := ext0_adu (q := q) hx (by decide : 308 ∉ [0, 1, 9, 10, 11, 12, 13, 2, 14, 15, 3, 16, 4, 17, 5, 18, 6, 19, 20, 7, 21, 22, 23, 40, 41, 42, 43, 44, 24, 25, 26, 27, 28, 29, 30, 31, 45, 46, 47, 48, 49, 8, 32, 33, 34, 35, 36, 37, 38, 39, 300]) (by decide)
  refine V0_in (fun ho44 _ => ?_)
  refine q_putR C hmn 300 (by decide) rfl (fun _ => by decide) (lyD_300 cy _ _) 12 (lyD_300 cy _ _) rfl (Nat.le_of_ble_eq_true rfl) (by decide) (by decide) (inR_lit rfl) rfl in_X11 tyX11 tyX11_ok nmX11 (by decide) tw_907 rfl rfl rfl (fun _ => rfl) (fun _ => rfl) dX11_init_65 (fun μ46 hμ48 => ?_)
  replace hf := of_lm hf hμ48
  refine V0_in (fun ho47 _ => ?_)
  refine q_aload_n C 0 rfl rfl dX11_init_68 ?_
  refine q_bipush C dX11_init_69 rfl ?_
  refine q_newa C (atype := .int) (ty := .int) 0 rfl tw_56 rfl (fun _ h => h) 40 rfl (by decide) (fun _ => rfl) (by decide) 309 (fun ad f => lyD_309 cy ad f) (fun _ => rfl) (ids1 := [0, 1, 9, 10, 11, 12, 13, 2, 14, 15, 3, 16, 4, 17, 5, 18, 6, 19, 20, 7, 21, 22, 23, 40, 41, 42, 43, 44, 24, 25, 26, 27, 28, 29, 30, 31, 45, 46, 47, 48, 49, 8, 32, 33, 34, 35, 36, 37, 38, 39, 300, 301, 302, 303, 304, 305, 306, 307, 308, 309]) rfl (by decide) (by decide) (okL_mem (lv := [some (rf 300), none]) (And.intro (fun _ => Or.inr (by decide)) trivial)) (List.forall_mem_cons.mpr ⟨(fun _ => Or.inr (by decide)), fun _ h => absurd h List.not_mem_nil⟩) (by decide) (by decide) (by decide) dX11_init_71 (fun q μ49 hμ51 hcf => ?_)
  replace hf := of_lm hf hμ51
  have hCF := hcf hCF
  have hx := ext0_adu (q := q) hx (by decide : 309 ∉ [0, 1, 9, 10, 11, 12, 13, 2, 14, 15, 3, 16, 4, 17, 5, 18, 6, 19, 20, 7, 21, 22, 23, 40, 41, 42, 43, 44, 24, 25, 26, 27, 28, 29, 30, 31, 45, 46, 47, 48, 49, 8, 32, 33, 34, 35, 36, 37, 38, 39, 300]) (by decide)
  refine V0_in (fun ho50 _ => ?_)
  refine q_putR C hmn 300 (by decide) rfl (fun _ => by decide) (lyD_300 cy _ _) 13 (lyD_300 cy _ _) rfl (Nat.le_of_ble_eq_true rfl) (by decide) (by decide) (inR_lit rfl) rfl in_X11 tyX11 tyX11_ok nmX11 (by decide) tw_908 rfl rfl rfl (fun _ => rfl) (fun _ => rfl) dX11_init_73 (fun μ52 hμ54 => ?_)
  replace hf := of_lm hf hμ54
  refine V0_in (fun ho53 _ => ?_)
  refine q_aload_n C 0 rfl rfl dX11_init_76 ?_
  refine q_bipush C dX11_init_77 rfl ?_
  refine q_newa C (atype := .int) (ty := .int) 0 rfl tw_56 rfl (fun _ h => h) 40 rfl (by decide) (fun _ => rfl) (by decide) 310 (fun ad f => lyD_310 cy ad f) (fun _ => rfl) (ids1 := [0, 1, 9, 10, 11, 12, 13, 2, 14, 15, 3, 16, 4, 17, 5, 18, 6, 19, 20, 7, 21, 22, 23, 40, 41, 42, 43, 44, 24, 25, 26, 27, 28, 29, 30, 31, 45, 46, 47, 48, 49, 8, 32, 33, 34, 35, 36, 37, 38, 39, 300, 301, 302, 303, 304, 305, 306, 307, 308, 309, 310]) rfl (by decide) (by decide) (okL_mem (lv := [some (rf 300), none]) (And.intro (fun _ => Or.inr (by decide)) trivial)) (List.forall_mem_cons.mpr ⟨(fun _ => Or.inr (by decide)), fun _ h => absurd h List.not_mem_nil⟩) (by decide) (by decide) (by decide) dX11_init_79 (fun q μ55 hμ57 hcf => ?_)
  replace hf := of_lm hf hμ57
  have hCF := hcf hCF
  have hx := ext0_adu (q := q) hx (by decide : 310 ∉ [0, 1, 9, 10, 11, 12, 13, 2, 14, 15, 3, 16, 4, 17, 5, 18, 6, 19, 20, 7, 21, 22, 23, 40, 41, 42, 43, 44, 24, 25, 26, 27, 28, 29, 30, 31, 45, 46, 47, 48, 49, 8, 32, 33, 34, 35, 36, 37, 38, 39, 300]) (by decide)
  refine V0_in (fun ho56 _ => ?_)
  refine q_putR C hmn 300 (by decide) rfl (fun _ => by decide) (lyD_300 cy _ _) 14 (lyD_300 cy _ _) rfl (Nat.le_of_ble_eq_true rfl) (by decide) (by decide) (inR_lit rfl) rfl in_X11 tyX11 tyX11_ok nmX11 (by decide) tw_909 rfl rfl rfl (fun _ => rfl) (fun _ => rfl) dX11_init_81 (fun μ58 hμ60 => ?_)
  replace hf := of_lm hf hμ60
  refine V0_in (fun ho59 _ => ?_)
  refine q_aload_n C 0 rfl rfl dX11_init_84 ?_
  refine q_sipush C dX11_init_85 rfl ?_
  refine q_newa C (atype := .byte) (ty := .byte) 1 rfl tw_94 rfl (fun _ h => h) 200 rfl (by decide) (fun _ => rfl) (by decide) 311 (fun ad f => lyD_311 cy ad f) (fun _ => rfl) (ids1 := [0, 1, 9, 10, 11, 12, 13, 2, 14, 15, 3, 16, 4, 17, 5, 18, 6, 19, 20, 7, 21, 22, 23, 40, 41, 42, 43, 44, 24, 25, 26, 27, 28, 29, 30, 31, 45, 46, 47, 48, 49, 8, 32, 33, 34, 35, 36, 37, 38, 39, 300, 301, 302, 303, 304, 305, 306, 307, 308, 309, 310, 311]) rfl (by decide) (by decide) (okL_mem (lv := [some (rf 300), none]) (And.intro (fun _ => Or.inr (by decide)) trivial)) (List.forall_mem_cons.mpr ⟨(fun _ => Or.inr (by decide)), fun _ h => absurd h List.not_mem_nil⟩) (by decide) (by decide) (by decide) dX11_init_88 (fun q μ61 hμ63 hcf => ?_)
  replace hf := of_lm hf hμ63
  have hCF := hcf hCF
  have hx := ext0_adu (q := q) hx (by decide : 311 ∉ [0, 1, 9, 10, 11, 12, 13, 2, 14, 15, 3, 16, 4, 17, 5, 18, 6, 19, 20, 7, 21, 22, 23, 40, 41, 42, 43, 44, 24, 25, 26, 27, 28, 29, 30, 31, 45, 46, 47, 48, 49, 8, 32, 33, 34, 35, 36, 37, 38, 39, 300]) (by decide)
  refine V0_in (fun ho62 _ => ?_)
  refine q_putR C hmn 300 (by decide) rfl (fun _ => by decide) (lyD_300 cy _ _) 18 (lyD_300 cy _ _) rfl (Nat.le_of_ble_eq_true rfl) (by decide) (by decide) (inR_lit rfl) rfl in_X11 tyX11 tyX11_ok nmX11 (by decide) tw_913 rfl rfl rfl (fun _ => rfl) (fun _ => rfl) dX11_init_90 (fun μ64 hμ66 => ?_)
  replace hf := of_lm hf hμ66
  refine V0_in (fun ho65 _ => ?_)
  refine q_aload_n C 0 rfl rfl dX11_init_93 ?_
  refine q_bipush C dX11_init_94 rfl ?_
  refine q_newa C (atype := .int) (ty := .int) 0 rfl tw_56 rfl (fun _ h => h) 9 rfl (by decide) (fun _ => rfl) (by decide) 312 (fun ad f => lyD_312 cy ad f) (fun _ => rfl) (ids1 := [0, 1, 9, 10, 11, 12, 13, 2, 14, 15, 3, 16, 4, 17, 5, 18, 6, 19, 20, 7, 21, 22, 23, 40, 41, 42, 43, 44, 24, 25, 26, 27, 28, 29, 30, 31, 45, 46, 47, 48, 49, 8, 32, 33, 34, 35, 36, 37, 38, 39, 300, 301, 302, 303, 304, 305, 306, 307, 308, 309, 310, 311, 312]) rfl (by decide) (by decide) (okL_mem (lv := [some (rf 300), none]) (And.intro (fun _ => Or.inr (by decide)) trivial)) (List.forall_mem_cons.mpr ⟨(fun _ => Or.inr (by decide)), fun _ h => absurd h List.not_mem_nil⟩) (by decide) (by decide) (by decide) dX11_init_96 (fun q μ67 hμ69 hcf => ?_)
  replace hf := of_lm hf hμ69
  have hCF := hcf hCF
  have hx := ext0_adu (q := q) hx (by decide : 312 ∉ [0, 1, 9, 10, 11, 12, 13, 2, 14, 15, 3, 16, 4, 17, 5, 18, 6, 19, 20, 7, 21, 22, 23, 40, 41, 42, 43, 44, 24, 25, 26, 27, 28, 29, 30, 31, 45, 46, 47, 48, 49, 8, 32, 33, 34, 35, 36, 37, 38, 39, 300]) (by decide)
  refine V0_in (fun ho68 _ => ?_)
  refine q_putR C hmn 300 (by decide) rfl (fun _ => by decide) (lyD_300 cy _ _) 23 (lyD_300 cy _ _) rfl (Nat.le_of_ble_eq_true rfl) (by decide) (by decide) (inR_lit rfl) rfl in_X11 tyX11 tyX11_ok nmX11 (by decide) tw_918 rfl rfl rfl (fun _ => rfl) (fun _ => rfl) dX11_init_98 (fun μ70 hμ72 => ?_)
  replace hf := of_lm hf hμ72
  refine V0_in (fun ho71 _ => ?_)
  refine q_aload_n C 0 rfl rfl dX11_init_101 ?_
  refine q_bipush C dX11_init_102 rfl ?_
  refine q_newa C (atype := .int) (ty := .int) 0 rfl tw_56 rfl (fun _ h => h) 9 rfl (by decide) (fun _ => rfl) (by decide) 313 (fun ad f => lyD_313 cy ad f) (fun _ => rfl) (ids1 := [0, 1, 9, 10, 11, 12, 13, 2, 14, 15, 3, 16, 4, 17, 5, 18, 6, 19, 20, 7, 21, 22, 23, 40, 41, 42, 43, 44, 24, 25, 26, 27, 28, 29, 30, 31, 45, 46, 47, 48, 49, 8, 32, 33, 34, 35, 36, 37, 38, 39, 300, 301, 302, 303, 304, 305, 306, 307, 308, 309, 310, 311, 312, 313]) rfl (by decide) (by decide) (okL_mem (lv := [some (rf 300), none]) (And.intro (fun _ => Or.inr (by decide)) trivial)) (List.forall_mem_cons.mpr ⟨(fun _ => Or.inr (by decide)), fun _ h => absurd h List.not_mem_nil⟩) (by decide) (by decide) (by decide) dX11_init_104 (fun q μ73 hμ75 hcf => ?_)
  replace hf := of_lm hf hμ75
  have hCF := hcf hCF
  have hx := ext0_adu (q := q) hx (by decide : 313 ∉ [0, 1, 9, 10, 11, 12, 13, 2, 14, 15, 3, 16, 4, 17, 5, 18, 6, 19, 20, 7, 21, 22, 23, 40, 41, 42, 43, 44, 24, 25, 26, 27, 28, 29, 30, 31, 45, 46, 47, 48, 49, 8, 32, 33, 34, 35, 36, 37, 38, 39, 300]) (by decide)
  refine V0_in (fun ho74 _ => ?_)
  refine q_putR C hmn 300 (by decide) rfl (fun _ => by decide) (lyD_300 cy _ _) 24 (lyD_300 cy _ _) rfl (Nat.le_of_ble_eq_true rfl) (by decide) (by decide) (inR_lit rfl) rfl in_X11 tyX11 tyX11_ok nmX11 (by decide) tw_919 rfl rfl rfl (fun _ => rfl) (fun _ => rfl) dX11_init_106 (fun μ76 hμ78 => ?_)
  replace hf := of_lm hf hμ78
  refine V0_in (fun ho77 _ => ?_)
  refine q_aload_n C 0 rfl rfl dX11_init_109 ?_
  refine q_bipush C dX11_init_110 rfl ?_
  refine q_newa C (atype := .boolean) (ty := .boolean) 2 rfl tw_1058 rfl (fun _ h => h) 9 rfl (by decide) (fun _ => rfl) (by decide) 314 (fun ad f => lyD_314 cy ad f) (fun _ => rfl) (ids1 := [0, 1, 9, 10, 11, 12, 13, 2, 14, 15, 3, 16, 4, 17, 5, 18, 6, 19, 20, 7, 21, 22, 23, 40, 41, 42, 43, 44, 24, 25, 26, 27, 28, 29, 30, 31, 45, 46, 47, 48, 49, 8, 32, 33, 34, 35, 36, 37, 38, 39, 300, 301, 302, 303, 304, 305, 306, 307, 308, 309, 310, 311, 312, 313, 314]) rfl (by decide) (by decide) (okL_mem (lv := [some (rf 300), none]) (And.intro (fun _ => Or.inr (by decide)) trivial)) (List.forall_mem_cons.mpr ⟨(fun _ => Or.inr (by decide)), fun _ h => absurd h List.not_mem_nil⟩) (by decide) (by decide) (by decide) dX11_init_112 (fun q μ79 hμ81 hcf => ?_)
  replace hf := of_lm hf hμ81
  have hCF := hcf hCF
  have hx := ext0_adu (q := q) hx (by decide : 314 ∉ [0, 1, 9, 10, 11, 12, 13, 2, 14, 15, 3, 16, 4, 17, 5, 18, 6, 19, 20, 7, 21, 22, 23, 40, 41, 42, 43, 44, 24, 25, 26, 27, 28, 29, 30, 31, 45, 46, 47, 48, 49, 8, 32, 33, 34, 35, 36, 37, 38, 39, 300]) (by decide)
  refine V0_in (fun ho80 _ => ?_)
  refine q_putR C hmn 300 (by decide) rfl (fun _ => by decide) (lyD_300 cy _ _) 25 (lyD_300 cy _ _) rfl (Nat.le_of_ble_eq_true rfl) (by decide) (by decide) (inR_lit rfl) rfl in_X11 tyX11 tyX11_ok nmX11 (by decide) tw_920 rfl rfl rfl (fun _ => rfl) (fun _ => rfl) dX11_init_114 (fun μ82 hμ84 => ?_)
  replace hf := of_lm hf hμ84
  refine V0_in (fun ho83 _ => ?_)
  refine q_aload_n C 0 rfl rfl dX11_init_117 ?_
  refine q_bipush C dX11_init_118 rfl ?_
  refine q_newa C (atype := .int) (ty := .int) 0 rfl tw_56 rfl (fun _ h => h) 30 rfl (by decide) (fun _ => rfl) (by decide) 315 (fun ad f => lyD_315 cy ad f) (fun _ => rfl) (ids1 := [0, 1, 9, 10, 11, 12, 13, 2, 14, 15, 3, 16, 4, 17, 5, 18, 6, 19, 20, 7, 21, 22, 23, 40, 41, 42, 43, 44, 24, 25, 26, 27, 28, 29, 30, 31, 45, 46, 47, 48, 49, 8, 32, 33, 34, 35, 36, 37, 38, 39, 300, 301, 302, 303, 304, 305, 306, 307, 308, 309, 310, 311, 312, 313, 314, 315]) rfl (by decide) (by decide) (okL_mem (lv := [some (rf 300), none]) (And.intro (fun _ => Or.inr (by decide)) trivial)) (List.forall_mem_cons.mpr ⟨(fun _ => Or.inr (by decide)), fun _ h => absurd h List.not_mem_nil⟩) (by decide) (by decide) (by decide) dX11_init_120 (fun q μ85 hμ87 hcf => ?_)
  replace hf := of_lm hf hμ87
  have hCF := hcf hCF
  have hx := ext0_adu (q := q) hx (by decide : 315 ∉ [0, 1, 9, 10, 11, 12, 13, 2, 14, 15, 3, 16, 4, 17, 5, 18, 6, 19, 20, 7, 21, 22, 23, 40, 41, 42, 43, 44, 24, 25, 26, 27, 28, 29, 30, 31, 45, 46, 47, 48, 49, 8, 32, 33, 34, 35, 36, 37, 38, 39, 300]) (by decide)
  refine V0_in (fun ho86 _ => ?_)
  refine q_putR C hmn 300 (by decide) rfl (fun _ => by decide) (lyD_300 cy _ _) 27 (lyD_300 cy _ _) rfl (Nat.le_of_ble_eq_true rfl) (by decide) (by decide) (inR_lit rfl) rfl in_X11 tyX11 tyX11_ok nmX11 (by decide) tw_922 rfl rfl rfl (fun _ => rfl) (fun _ => rfl) dX11_init_122 (fun μ88 hμ90 => ?_)
  replace hf := of_lm hf hμ90
  refine V0_in (fun ho89 _ => ?_)
  refine q_aload_n C 0 rfl rfl dX11_init_125 ?_
  refine q_bipush C dX11_init_126 rfl ?_
  refine q_newa C (atype := .int) (ty := .int) 0 rfl tw_56 rfl (fun _ h => h) 30 rfl (by decide) (fun _ => rfl) (by decide) 316 (fun ad f => lyD_316 cy ad f) (fun _ => rfl) (ids1 := [0, 1, 9, 10, 11, 12, 13, 2, 14, 15, 3, 16, 4, 17, 5, 18, 6, 19, 20, 7, 21, 22, 23, 40, 41, 42, 43, 44, 24, 25, 26, 27, 28, 29, 30, 31, 45, 46, 47, 48, 49, 8, 32, 33, 34, 35, 36, 37, 38, 39, 300, 301, 302, 303, 304, 305, 306, 307, 308, 309, 310, 311, 312, 313, 314, 315, 316]) rfl (by decide) (by decide) (okL_mem (lv := [some (rf 300), none]) (And.intro (fun _ => Or.inr (by decide)) trivial)) (List.forall_mem_cons.mpr ⟨(fun _ => Or.inr (by decide)), fun _ h => absurd h List.not_mem_nil⟩) (by decide) (by decide) (by decide) dX11_init_128 (fun q μ91 hμ93 hcf => ?_)
  replace hf := of_lm hf hμ93
  have hCF := hcf hCF
  have hx := ext0_adu (q := q) hx (by decide : 316 ∉ [0, 1, 9, 10, 11, 12, 13, 2, 14, 15, 3, 16, 4, 17, 5, 18, 6, 19, 20, 7, 21, 22, 23, 40, 41, 42, 43, 44, 24, 25, 26, 27, 28, 29, 30, 31, 45, 46, 47, 48, 49, 8, 32, 33, 34, 35, 36, 37, 38, 39, 300]) (by decide)
  refine V0_in (fun ho92 _ => ?_)
  refine q_putR C hmn 300 (by decide) rfl (fun _ => by decide) (lyD_300 cy _ _) 28 (lyD_300 cy _ _) rfl (Nat.le_of_ble_eq_true rfl) (by decide) (by decide) (inR_lit rfl) rfl in_X11 tyX11 tyX11_ok nmX11 (by decide) tw_923 rfl rfl rfl (fun _ => rfl) (fun _ => rfl) dX11_init_130 (fun μ94 hμ96 => ?_)
  replace hf := of_lm hf hμ96
  refine V0_in (fun ho95 _ => ?_)
  refine q_aload_n C 0 rfl rfl dX11_init_133 ?_
  refine q_bipush C dX11_init_134 rfl ?_
  refine q_newa C (atype := .int) (ty := .int) 0 rfl tw_56 rfl (fun _ h => h) 30 rfl (by decide) (fun _ => rfl) (by decide) 317 (fun ad f => lyD_317 cy ad f) (fun _ => rfl) (ids1 := [0, 1, 9, 10, 11, 12, 13, 2, 14, 15, 3, 16, 4, 17, 5, 18, 6, 19, 20, 7, 21, 22, 23, 40, 41, 42, 43, 44, 24, 25, 26, 27, 28, 29, 30, 31, 45, 46, 47, 48, 49, 8, 32, 33, 34, 35, 36, 37, 38, 39, 300, 301, 302, 303, 304, 305, 306, 307, 308, 309, 310, 311, 312, 313, 314, 315, 316, 317]) rfl (by decide) (by decide) (okL_mem (lv := [some (rf 300), none]) (And.intro (fun _ => Or.inr (by decide)) trivial)) (List.forall_mem_cons.mpr ⟨(fun _ => Or.inr (by decide)), fun _ h => absurd h List.not_mem_nil⟩) (by decide) (by decide) (by decide) dX11_init_136 (fun q μ97 hμ99 hcf => ?_)
  replace hf := of_lm hf hμ99
  have hCF := hcf hCF
  have hx := ext0_adu (q := q) hx (by decide : 317 ∉ [0, 1, 9, 10, 11, 12, 13, 2, 14, 15, 3, 16, 4, 17, 5, 18, 6, 19, 20, 7, 21, 22, 23, 40, 41, 42, 43, 44, 24, 25, 26, 27, 28, 29, 30, 31, 45, 46, 47, 48, 49, 8, 32, 33, 34, 35, 36, 37, 38, 39, 300]) (by decide)
  refine V0_in (fun ho98 _ => ?_)
  refine q_putR C hmn 300 (by decide) rfl (fun _ => by decide) (lyD_300 cy _ _) 29 (lyD_300 cy _ _) rfl (Nat.le_of_ble_eq_true rfl) (by decide) (by decide) (inR_lit rfl) rfl in_X11 tyX11 tyX11_ok nmX11 (by decide) tw_924 rfl rfl rfl (fun _ => rfl) (fun _ => rfl) dX11_init_138 (fun μ100 hμ102 => ?_)
  replace hf := of_lm hf hμ102
  refine V0_in (fun ho101 _ => ?_)
  refine q_aload_n C 0 rfl rfl dX11_init_141 ?_
  refine q_bipush C dX11_init_142 rfl ?_
  refine q_newa C (atype := .int) (ty := .int) 0 rfl tw_56 rfl (fun _ h => h) 30 rfl (by decide) (fun _ => rfl) (by decide) 318 (fun ad f => lyD_318 cy ad f) (fun _ => rfl) (ids1 := [0, 1, 9, 10, 11, 12, 13, 2, 14, 15, 3, 16, 4, 17, 5, 18, 6, 19, 20, 7, 21, 22, 23, 40, 41, 42, 43, 44, 24, 25, 26, 27, 28, 29, 30, 31, 45, 46, 47, 48, 49, 8, 32, 33, 34, 35, 36, 37, 38, 39, 300, 301, 302, 303, 304, 305, 306, 307, 308, 309, 310, 311, 312, 313, 314, 315, 316, 317, 318]) rfl (by decide) (by decide) (okL_mem (lv := [some (rf 300), none]) (And.intro (fun _ => Or.inr (by decide)) trivial)) (List.forall_mem_cons.mpr ⟨(fun _ => Or.inr (by decide)), fun _ h => absurd h List.not_mem_nil⟩) (by decide) (by decide) (by decide) dX11_init_144 (fun q μ103 hμ105 hcf => ?_)
  replace hf := of_lm hf hμ105
  have hCF := hcf hCF
  have hx := ext0_adu (q := q) hx (by decide : 318 ∉ [0, 1, 9, 10, 11, 12, 13, 2, 14, 15, 3, 16, 4, 17, 5, 18, 6, 19, 20, 7, 21, 22, 23, 40, 41, 42, 43, 44, 24, 25, 26, 27, 28, 29, 30, 31, 45, 46, 47, 48, 49, 8, 32, 33, 34, 35, 36, 37, 38, 39, 300]) (by decide)
  refine V0_in (fun ho104 _ => ?_)
  refine q_putR C hmn 300 (by decide) rfl (fun _ => by decide) (lyD_300 cy _ _) 30 (lyD_300 cy _ _) rfl (Nat.le_of_ble_eq_true rfl) (by decide) (by decide) (inR_lit rfl) rfl in_X11 tyX11 tyX11_ok nmX11 (by decide) tw_925 rfl rfl rfl (fun _ => rfl) (fun _ => rfl) dX11_init_146 (fun μ106 hμ108 => ?_)
  replace hf := of_lm hf hμ108
  refine V0_in (fun ho107 _ => ?_)
  refine q_aload_n C 0 rfl rfl dX11_init_149 ?_
  refine q_bipush C dX11_init_150 rfl ?_
  refine q_newa C (atype := .int) (ty := .int) 0 rfl tw_56 rfl (fun _ h => h) 30 rfl (by decide) (fun _ => rfl) (by decide) 319 (fun ad f => lyD_319 cy ad f) (fun _ => rfl) (ids1 := [0, 1, 9, 10, 11, 12, 13, 2, 14, 15, 3, 16, 4, 17, 5, 18, 6, 19, 20, 7, 21, 22, 23, 40, 41, 42, 43, 44, 24, 25, 26, 27, 28, 29, 30, 31, 45, 46, 47, 48, 49, 8, 32, 33, 34, 35, 36, 37, 38, 39, 300, 301, 302, 303, 304, 305, 306, 307, 308, 309, 310, 311, 312, 313, 314, 315, 316, 317, 318, 319]) rfl (by decide) (by decide) (okL_mem (lv := [some (rf 300), none]) (And.intro (fun _ => Or.inr (by decide)) trivial)) (List.forall_mem_cons.mpr ⟨(fun _ => Or.inr (by decide)), fun _ h => absurd h List.not_mem_nil⟩) (by decide) (by decide) (by decide) dX11_init_152 (fun q μ109 hμ111 hcf => ?_)
  replace hf := of_lm hf hμ111
  have hCF := hcf hCF
  have hx := ext0_adu (q := q) hx (by decide : 319 ∉ [0, 1, 9, 10, 11, 12, 13, 2, 14, 15, 3, 16, 4, 17, 5, 18, 6, 19, 20, 7, 21, 22, 23, 40, 41, 42, 43, 44, 24, 25, 26, 27, 28, 29, 30, 31, 45, 46, 47, 48, 49, 8, 32, 33, 34, 35, 36, 37, 38, 39, 300]) (by decide)
  refine V0_in (fun ho110 _ => ?_)
  refine q_putR C hmn 300 (by decide) rfl (fun _ => by decide) (lyD_300 cy _ _) 31 (lyD_300 cy _ _) rfl (Nat.le_of_ble_eq_true rfl) (by decide) (by decide) (inR_lit rfl) rfl in_X11 tyX11 tyX11_ok nmX11 (by decide) tw_926 rfl rfl rfl (fun _ => rfl) (fun _ => rfl) dX11_init_154 (fun μ112 hμ114 => ?_)
  replace hf := of_lm hf hμ114
  refine V0_in (fun ho113 _ => ?_)
  refine q_aload_n C 0 rfl rfl dX11_init_157 ?_
  refine q_iconst C dX11_init_158 ?_
  refine q_newa C (atype := .int) (ty := .int) 0 rfl tw_56 rfl (fun _ h => h) 5 rfl (by decide) (fun _ => rfl) (by decide) 320 (fun ad f => lyD_320 cy ad f) (fun _ => rfl) (ids1 := [0, 1, 9, 10, 11, 12, 13, 2, 14, 15, 3, 16, 4, 17, 5, 18, 6, 19, 20, 7, 21, 22, 23, 40, 41, 42, 43, 44, 24, 25, 26, 27, 28, 29, 30, 31, 45, 46, 47, 48, 49, 8, 32, 33, 34, 35, 36, 37, 38, 39, 300, 301, 302, 303, 304, 305, 306, 307, 308, 309, 310, 311, 312, 313, 314, 315, 316, 317, 318, 319, 320]) rfl (by decide) (by decide) (okL_mem (lv := [some (rf 300), none]) (And.intro (fun _ => Or.inr (by decide)) trivial)) (List.forall_mem_cons.mpr ⟨(fun _ => Or.inr (by decide)), fun _ h => absurd h List.not_mem_nil⟩) (by decide) (by decide) (by decide) dX11_init_159 (fun q μ115 hμ117 hcf => ?_)
  replace hf := of_lm hf hμ117
  have hCF := hcf hCF
  have hx := ext0_adu (q := q) hx (by decide : 320 ∉ [0, 1, 9, 10, 11, 12, 13, 2, 14, 15, 3, 16, 4, 17, 5, 18, 6, 19, 20, 7, 21, 22, 23, 40, 41, 42, 43, 44, 24, 25, 26, 27, 28, 29, 30, 31, 45, 46, 47, 48, 49, 8, 32, 33, 34, 35, 36, 37, 38, 39, 300]) (by decide)
  refine V0_in (fun ho116 _ => ?_)
  refine q_putR C hmn 300 (by decide) rfl (fun _ => by decide) (lyD_300 cy _ _) 34 (lyD_300 cy _ _) rfl (Nat.le_of_ble_eq_true rfl) (by decide) (by decide) (inR_lit rfl) rfl in_X11 tyX11 tyX11_ok nmX11 (by decide) tw_929 rfl rfl rfl (fun _ => rfl) (fun _ => rfl) dX11_init_161 (fun μ118 hμ120 => ?_)
  replace hf := of_lm hf hμ120
  refine V0_in (fun ho119 _ => ?_)
  refine q_aload_n C 0 rfl rfl dX11_init_164 ?_
  refine q_iconst C dX11_init_165 ?_
  refine q_newa C (atype := .int) (ty := .int) 0 rfl tw_56 rfl (fun _ h => h) 5 rfl (by decide) (fun _ => rfl) (by decide) 321 (fun ad f => lyD_321 cy ad f) (fun _ => rfl) (ids1 := [0, 1, 9, 10, 11, 12, 13, 2, 14, 15, 3, 16, 4, 17, 5, 18, 6, 19, 20, 7, 21, 22, 23, 40, 41, 42, 43, 44, 24, 25, 26, 27, 28, 29, 30, 31, 45, 46, 47, 48, 49, 8, 32, 33, 34, 35, 36, 37, 38, 39, 300, 301, 302, 303, 304, 305, 306, 307, 308, 309, 310, 311, 312, 313, 314, 315, 316, 317, 318, 319, 320, 321]) rfl (by decide) (by decide) (okL_mem (lv := [some (rf 300), none]) (And.intro (fun _ => Or.inr (by decide)) trivial)) (List.forall_mem_cons.mpr ⟨(fun _ => Or.inr (by decide)), fun _ h => absurd h List.not_mem_nil⟩) (by decide) (by decide) (by decide) dX11_init_166 (fun q μ121 hμ123 hcf => ?_)
  replace hf := of_lm hf hμ123
  have hCF := hcf hCF
  have hx := ext0_adu (q := q) hx (by decide : 321 ∉ [0, 1, 9, 10, 11, 12, 13, 2, 14, 15, 3, 16, 4, 17, 5, 18, 6, 19, 20, 7, 21, 22, 23, 40, 41, 42, 43, 44, 24, 25, 26, 27, 28, 29, 30, 31, 45, 46, 47, 48, 49, 8, 32, 33, 34, 35, 36, 37, 38, 39, 300]) (by decide)
  refine V0_in (fun ho122 _ => ?_)
  refine q_putR C hmn 300 (by decide) rfl (fun _ => by decide) (lyD_300 cy _ _) 35 (lyD_300 cy _ _) rfl (Nat.le_of_ble_eq_true rfl) (by decide) (by decide) (inR_lit rfl) rfl in_X11 tyX11 tyX11_ok nmX11 (by decide) tw_930 rfl rfl rfl (fun _ => rfl) (fun _ => rfl) dX11_init_168 (fun μ124 hμ126 => ?_)
  replace hf := of_lm hf hμ126
  refine V0_in (fun ho125 _ => ?_)
  refine q_aload_n C 0 rfl rfl dX11_init_171 ?_
  refine q_iconst C dX11_init_172 ?_
  refine q_newa C (atype := .int) (ty := .int) 0 rfl tw_56 rfl (fun _ h => h) 5 rfl (by decide) (fun _ => rfl) (by decide) 322 (fun ad f => lyD_322 cy ad f) (fun _ => rfl) (ids1 := [0, 1, 9, 10, 11, 12, 13, 2, 14, 15, 3, 16, 4, 17, 5, 18, 6, 19, 20, 7, 21, 22, 23, 40, 41, 42, 43, 44, 24, 25, 26, 27, 28, 29, 30, 31, 45, 46, 47, 48, 49, 8, 32, 33, 34, 35, 36, 37, 38, 39, 300, 301, 302, 303, 304, 305, 306, 307, 308, 309, 310, 311, 312, 313, 314, 315, 316, 317, 318, 319, 320, 321, 322]) rfl (by decide) (by decide) (okL_mem (lv := [some (rf 300), none]) (And.intro (fun _ => Or.inr (by decide)) trivial)) (List.forall_mem_cons.mpr ⟨(fun _ => Or.inr (by decide)), fun _ h => absurd h List.not_mem_nil⟩) (by decide) (by decide) (by decide) dX11_init_173 (fun q μ127 hμ129 hcf => ?_)
  replace hf := of_lm hf hμ129
  have hCF := hcf hCF
  have hx := ext0_adu (q := q) hx (by decide : 322 ∉ [0, 1, 9, 10, 11, 12, 13, 2, 14, 15, 3, 16, 4, 17, 5, 18, 6, 19, 20, 7, 21, 22, 23, 40, 41, 42, 43, 44, 24, 25, 26, 27, 28, 29, 30, 31, 45, 46, 47, 48, 49, 8, 32, 33, 34, 35, 36, 37, 38, 39, 300]) (by decide)
  refine V0_in (fun ho128 _ => ?_)
  refine q_putR C hmn 300 (by decide) rfl (fun _ => by decide) (lyD_300 cy _ _) 36 (lyD_300 cy _ _) rfl (Nat.le_of_ble_eq_true rfl) (by decide) (by decide) (inR_lit rfl) rfl in_X11 tyX11 tyX11_ok nmX11 (by decide) tw_931 rfl rfl rfl (fun _ => rfl) (fun _ => rfl) dX11_init_175 (fun μ130 hμ132 => ?_)
  replace hf := of_lm hf hμ132
  refine V0_in (fun ho131 _ => ?_)
  refine q_aload_n C 0 rfl rfl dX11_init_178 ?_
  refine q_iconst C dX11_init_179 ?_
  refine q_newa C (atype := .int) (ty := .int) 0 rfl tw_56 rfl (fun _ h => h) 5 rfl (by decide) (fun _ => rfl) (by decide) 323 (fun ad f => lyD_323 cy ad f) (fun _ => rfl) (ids1 := [0, 1, 9, 10, 11, 12, 13, 2, 14, 15, 3, 16, 4, 17, 5, 18, 6, 19, 20, 7, 21, 22, 23, 40, 41, 42, 43, 44, 24, 25, 26, 27, 28, 29, 30, 31, 45, 46, 47, 48, 49, 8, 32, 33, 34, 35, 36, 37, 38, 39, 300, 301, 302, 303, 304, 305, 306, 307, 308, 309, 310, 311, 312, 313, 314, 315, 316, 317, 318, 319, 320, 321, 322, 323]) rfl (by decide) (by decide) (okL_mem (lv := [some (rf 300), none]) (And.intro (fun _ => Or.inr (by decide)) trivial)) (List.forall_mem_cons.mpr ⟨(fun _ => Or.inr (by decide)), fun _ h => absurd h List.not_mem_nil⟩) (by decide) (by decide) (by decide) dX11_init_180 (fun q μ133 hμ135 hcf => ?_)
  replace hf := of_lm hf hμ135
  have hCF := hcf hCF
  have hx := ext0_adu (q := q) hx (by decide : 323 ∉ [0, 1, 9, 10, 11, 12, 13, 2, 14, 15, 3, 16, 4, 17, 5, 18, 6, 19, 20, 7, 21, 22, 23, 40, 41, 42, 43, 44, 24, 25, 26, 27, 28, 29, 30, 31, 45, 46, 47, 48, 49, 8, 32, 33, 34, 35, 36, 37, 38, 39, 300]) (by decide)
  refine V0_in (fun ho134 _ => ?_)
  refine q_putR C hmn 300 (by decide) rfl (fun _ => by decide) (lyD_300 cy _ _) 37 (lyD_300 cy _ _) rfl (Nat.le_of_ble_eq_true rfl) (by decide) (by decide) (inR_lit rfl) rfl in_X11 tyX11 tyX11_ok nmX11 (by decide) tw_932 rfl rfl rfl (fun _ => rfl) (fun _ => rfl) dX11_init_182 (fun μ136 hμ138 => ?_)
  replace hf := of_lm hf hμ138
  refine V0_in (fun ho137 _ => ?_)
  refine q_aload_n C 0 rfl rfl dX11_init_185 ?_
  refine q_iconst C dX11_init_186 ?_
  refine q_newa C (atype := .int) (ty := .int) 0 rfl tw_56 rfl (fun _ h => h) 5 rfl (by decide) (fun _ => rfl) (by decide) 324 (fun ad f => lyD_324 cy ad f) (fun _ => rfl) (ids1 := [0, 1, 9, 10, 11, 12, 13, 2, 14, 15, 3, 16, 4, 17, 5, 18, 6, 19, 20, 7, 21, 22, 23, 40, 41, 42, 43, 44, 24, 25, 26, 27, 28, 29, 30, 31, 45, 46, 47, 48, 49, 8, 32, 33, 34, 35, 36, 37, 38, 39, 300, 301, 302, 303, 304, 305, 306, 307, 308, 309, 310, 311, 312, 313, 314, 315, 316, 317, 318, 319, 320, 321, 322, 323, 324]) rfl (by decide) (by decide) (okL_mem (lv := [some (rf 300), none]) (And.intro (fun _ => Or.inr (by decide)) trivial)) (List.forall_mem_cons.mpr ⟨(fun _ => Or.inr (by decide)), fun _ h => absurd h List.not_mem_nil⟩) (by decide) (by decide) (by decide) dX11_init_187 (fun q μ139 hμ141 hcf => ?_)
  replace hf := of_lm hf hμ141
  have hCF := hcf hCF
  have hx := ext0_adu (q := q) hx (by decide : 324 ∉ [0, 1, 9, 10, 11, 12, 13, 2, 14, 15, 3, 16, 4, 17, 5, 18, 6, 19, 20, 7, 21, 22, 23, 40, 41, 42, 43, 44, 24, 25, 26, 27, 28, 29, 30, 31, 45, 46, 47, 48, 49, 8, 32, 33, 34, 35, 36, 37, 38, 39, 300]) (by decide)
  refine V0_in (fun ho140 _ => ?_)
  refine q_putR C hmn 300 (by decide) rfl (fun _ => by decide) (lyD_300 cy _ _) 38 (lyD_300 cy _ _) rfl (Nat.le_of_ble_eq_true rfl) (by decide) (by decide) (inR_lit rfl) rfl in_X11 tyX11 tyX11_ok nmX11 (by decide) tw_933 rfl rfl rfl (fun _ => rfl) (fun _ => rfl) dX11_init_189 (fun μ142 hμ144 => ?_)
  replace hf := of_lm hf hμ144
  refine V0_in (fun ho143 _ => ?_)
  refine q_aload_n C 0 rfl rfl dX11_init_192 ?_
  refine q_iconst C dX11_init_193 ?_
  refine q_newa C (atype := .int) (ty := .int) 0 rfl tw_56 rfl (fun _ h => h) 5 rfl (by decide) (fun _ => rfl) (by decide) 325 (fun ad f => lyD_325 cy ad f) (fun _ => rfl) (ids1 := [0, 1, 9, 10, 11, 12, 13, 2, 14, 15, 3, 16, 4, 17, 5, 18, 6, 19, 20, 7, 21, 22, 23, 40, 41, 42, 43, 44, 24, 25, 26, 27, 28, 29, 30, 31, 45, 46, 47, 48, 49, 8, 32, 33, 34, 35, 36, 37, 38, 39, 300, 301, 302, 303, 304, 305, 306, 307, 308, 309, 310, 311, 312, 313, 314, 315, 316, 317, 318, 319, 320, 321, 322, 323, 324, 325]) rfl (by decide) (by decide) (okL_mem (lv := [some (rf 300), none]) (And.intro (fun _ => Or.inr (by decide)) trivial)) (List.forall_mem_cons.mpr ⟨(fun _ => Or.inr (by decide)), fun _ h => absurd h List.not_mem_nil⟩) (by decide) (by decide) (by decide) dX11_init_194 (fun q μ145 hμ147 hcf => ?_)
  replace hf := of_lm hf hμ147
  have hCF := hcf hCF
  have hx := ext0_adu (q := q) hx (by decide : 325 ∉ [0, 1, 9, 10, 11, 12, 13, 2, 14, 15, 3, 16, 4, 17, 5, 18, 6, 19, 20, 7, 21, 22, 23, 40, 41, 42, 43, 44, 24, 25, 26, 27, 28, 29, 30, 31, 45, 46, 47, 48, 49, 8, 32, 33, 34, 35, 36, 37, 38, 39, 300]) (by decide)
  refine V0_in (fun ho146 _ => ?_)
  refine q_putR C hmn 300 (by decide) rfl (fun _ => by decide) (lyD_300 cy _ _) 39 (lyD_300 cy _ _) rfl (Nat.le_of_ble_eq_true rfl) (by decide) (by decide) (inR_lit rfl) rfl in_X11 tyX11 tyX11_ok nmX11 (by decide) tw_934 rfl rfl rfl (fun _ => rfl) (fun _ => rfl) dX11_init_196 (fun μ148 hμ150 => ?_)
  replace hf := of_lm hf hμ150
  refine V0_in (fun ho149 _ => ?_)
  refine q_aload_n C 0 rfl rfl dX11_init_199 ?_
  refine q_iconst C dX11_init_200 ?_
  refine q_newa C (atype := .int) (ty := .int) 0 rfl tw_56 rfl (fun _ h => h) 5 rfl (by decide) (fun _ => rfl) (by decide) 326 (fun ad f => lyD_326 cy ad f) (fun _ => rfl) (ids1 := [0, 1, 9, 10, 11, 12, 13, 2, 14, 15, 3, 16, 4, 17, 5, 18, 6, 19, 20, 7, 21, 22, 23, 40, 41, 42, 43, 44, 24, 25, 26, 27, 28, 29, 30, 31, 45, 46, 47, 48, 49, 8, 32, 33, 34, 35, 36, 37, 38, 39, 300, 301, 302, 303, 304, 305, 306, 307, 308, 309, 310, 311, 312, 313, 314, 315, 316, 317, 318, 319, 320, 321, 322, 323, 324, 325, 326]) rfl (by decide) (by decide) (okL_mem (lv := [some (rf 300), none]) (And.intro (fun _ => Or.inr (by decide)) trivial)) (List.forall_mem_cons.mpr ⟨(fun _ => Or.inr (by decide)), fun _ h => absurd h List.not_mem_nil⟩) (by decide) (by decide) (by decide) dX11_init_201 (fun q μ151 hμ153 hcf => ?_)
  replace hf := of_lm hf hμ153
  have hCF := hcf hCF
  have hx := ext0_adu (q := q) hx (by decide : 326 ∉ [0, 1, 9, 10, 11, 12, 13, 2, 14, 15, 3, 16, 4, 17, 5, 18, 6, 19, 20, 7, 21, 22, 23, 40, 41, 42, 43, 44, 24, 25, 26, 27, 28, 29, 30, 31, 45, 46, 47, 48, 49, 8, 32, 33, 34, 35, 36, 37, 38, 39, 300]) (by decide)
  refine V0_in (fun ho152 _ => ?_)
  refine q_putR C hmn 300 (by decide) rfl (fun _ => by decide) (lyD_300 cy _ _) 40 (lyD_300 cy _ _) rfl (Nat.le_of_ble_eq_true rfl) (by decide) (by decide) (inR_lit rfl) rfl in_X11 tyX11 tyX11_ok nmX11 (by decide) tw_935 rfl rfl rfl (fun _ => rfl) (fun _ => rfl) dX11_init_203 (fun μ154 hμ156 => ?_)
  replace hf := of_lm hf hμ156
  refine V0_in (fun ho155 _ => ?_)
  refine q_aload_n C 0 rfl rfl dX11_init_206 ?_
  refine q_iconst C dX11_init_207 ?_
  refine q_newa C (atype := .int) (ty := .int) 0 rfl tw_56 rfl (fun _ h => h) 5 rfl (by decide) (fun _ => rfl) (by decide) 327 (fun ad f => lyD_327 cy ad f) (fun _ => rfl) (ids1 := [0, 1, 9, 10, 11, 12, 13, 2, 14, 15, 3, 16, 4, 17, 5, 18, 6, 19, 20, 7, 21, 22, 23, 40, 41, 42, 43, 44, 24, 25, 26, 27, 28, 29, 30, 31, 45, 46, 47, 48, 49, 8, 32, 33, 34, 35, 36, 37, 38, 39, 300, 301, 302, 303, 304, 305, 306, 307, 308, 309, 310, 311, 312, 313, 314, 315, 316, 317, 318, 319, 320, 321, 322, 323, 324, 325, 326, 327]) rfl (by decide) (by decide) (okL_mem (lv := [some (rf 300), none]) (And.intro (fun _ => Or.inr (by decide)) trivial)) (List.forall_mem_cons.mpr ⟨(fun _ => Or.inr (by decide)), fun _ h => absurd h List.not_mem_nil⟩) (by decide) (by decide) (by decide) dX11_init_208 (fun q μ157 hμ159 hcf => ?_)
  replace hf := of_lm hf hμ159
  have hCF := hcf hCF
  have hx := ext0_adu (q := q) hx (by decide : 327 ∉ [0, 1, 9, 10, 11, 12, 13, 2, 14, 15, 3, 16, 4, 17, 5, 18, 6, 19, 20, 7, 21, 22, 23, 40, 41, 42, 43, 44, 24, 25, 26, 27, 28, 29, 30, 31, 45, 46, 47, 48, 49, 8, 32, 33, 34, 35, 36, 37, 38, 39, 300]) (by decide)
  refine V0_in (fun ho158 _ => ?_)
  refine q_putR C hmn 300 (by decide) rfl (fun _ => by decide) (lyD_300 cy _ _) 41 (lyD_300 cy _ _) rfl (Nat.le_of_ble_eq_true rfl) (by decide) (by decide) (inR_lit rfl) rfl in_X11 tyX11 tyX11_ok nmX11 (by decide) tw_936 rfl rfl rfl (fun _ => rfl) (fun _ => rfl) dX11_init_210 (fun μ160 hμ162 => ?_)
  replace hf := of_lm hf hμ162
  refine V0_in (fun ho161 _ => ?_)
  refine q_aload_n C 0 rfl rfl dX11_init_213 ?_
  refine q_iconst C dX11_init_214 ?_
  refine q_newa C (atype := .int) (ty := .int) 0 rfl tw_56 rfl (fun _ h => h) 5 rfl (by decide) (fun _ => rfl) (by decide) 328 (fun ad f => lyD_328 cy ad f) (fun _ => rfl) (ids1 := [0, 1, 9, 10, 11, 12, 13, 2, 14, 15, 3, 16, 4, 17, 5, 18, 6, 19, 20, 7, 21, 22, 23, 40, 41, 42, 43, 44, 24, 25, 26, 27, 28, 29, 30, 31, 45, 46, 47, 48, 49, 8, 32, 33, 34, 35, 36, 37, 38, 39, 300, 301, 302, 303, 304, 305, 306, 307, 308, 309, 310, 311, 312, 313, 314, 315, 316, 317, 318, 319, 320, 321, 322, 323, 324, 325, 326, 327, 328]) rfl (by decide) (by decide) (okL_mem (lv := [some (rf 300), none]) (And.intro (fun _ => Or.inr (by decide)) trivial)) (List.forall_mem_cons.mpr ⟨(fun _ => Or.inr (by decide)), fun _ h => absurd h List.not_mem_nil⟩) (by decide) (by decide) (by decide) dX11_init_215 (fun q μ163 hμ165 hcf => ?_)
  replace hf := of_lm hf hμ165
  have hCF := hcf hCF
  have hx := ext0_adu (q := q) hx (by decide : 328 ∉ [0, 1, 9, 10, 11, 12, 13, 2, 14, 15, 3, 16, 4, 17, 5, 18, 6, 19, 20, 7, 21, 22, 23, 40, 41, 42, 43, 44, 24, 25, 26, 27, 28, 29, 30, 31, 45, 46, 47, 48, 49, 8, 32, 33, 34, 35, 36, 37, 38, 39, 300]) (by decide)
  refine V0_in (fun ho164 _ => ?_)
  refine q_putR C hmn 300 (by decide) rfl (fun _ => by decide) (lyD_300 cy _ _) 42 (lyD_300 cy _ _) rfl (Nat.le_of_ble_eq_true rfl) (by decide) (by decide) (inR_lit rfl) rfl in_X11 tyX11 tyX11_ok nmX11 (by decide) tw_937 rfl rfl rfl (fun _ => rfl) (fun _ => rfl) dX11_init_217 (fun μ166 hμ168 => ?_)
  replace hf := of_lm hf hμ168
  refine V0_in (fun ho167 _ => ?_)
  refine q_aload_n C 0 rfl rfl dX11_init_220 ?_
  refine q_bipush C dX11_init_221 rfl ?_
  refine q_newa C (atype := .int) (ty := .int) 0 rfl tw_56 rfl (fun _ h => h) 6 rfl (by decide) (fun _ => rfl) (by decide) 329 (fun ad f => lyD_329 cy ad f) (fun _ => rfl) (ids1 := [0, 1, 9, 10, 11, 12, 13, 2, 14, 15, 3, 16, 4, 17, 5, 18, 6, 19, 20, 7, 21, 22, 23, 40, 41, 42, 43, 44, 24, 25, 26, 27, 28, 29, 30, 31, 45, 46, 47, 48, 49, 8, 32, 33, 34, 35, 36, 37, 38, 39, 300, 301, 302, 303, 304, 305, 306, 307, 308, 309, 310, 311, 312, 313, 314, 315, 316, 317, 318, 319, 320, 321, 322, 323, 324, 325, 326, 327, 328, 329]) rfl (by decide) (by decide) (okL_mem (lv := [some (rf 300), none]) (And.intro (fun _ => Or.inr (by decide)) trivial)) (List.forall_mem_cons.mpr ⟨(fun _ => Or.inr (by decide)), fun _ h => absurd h List.not_mem_nil⟩) (by decide) (by decide) (by decide) dX11_init_223 (fun q μ169 hμ171 hcf => ?_)
  replace hf := of_lm hf hμ171
  have hCF := hcf hCF
  have hx := ext0_adu (q := q) hx (by decide : 329 ∉ [0, 1, 9, 10, 11, 12, 13, 2, 14, 15, 3, 16, 4, 17, 5, 18, 6, 19, 20, 7, 21, 22, 23, 40, 41, 42, 43, 44, 24, 25, 26, 27, 28, 29, 30, 31, 45, 46, 47, 48, 49, 8, 32, 33, 34, 35, 36, 37, 38, 39, 300]) (by decide)
  refine V0_in (fun ho170 _ => ?_)
  refine q_putR C hmn 300 (by decide) rfl (fun _ => by decide) (lyD_300 cy _ _) 43 (lyD_300 cy _ _) rfl (Nat.le_of_ble_eq_true rfl) (by decide) (by decide) (inR_lit rfl) rfl in_X11 tyX11 tyX11_ok nmX11 (by decide) tw_938 rfl rfl rfl (fun _ => rfl) (fun _ => rfl) dX11_init_225 (fun μ172 hμ174 => ?_)
  replace hf := of_lm hf hμ174
  refine V0_in (fun ho173 _ => ?_)
  refine q_aload_n C 0 rfl rfl dX11_init_228 ?_
  refine q_sipush C dX11_init_229 rfl ?_
  refine q_newa C (atype := .int) (ty := .int) 0 rfl tw_56 rfl (fun _ h => h) 3002 rfl (by decide) (fun _ => rfl) (by decide) 330 (fun ad f => lyD_330 cy ad f) (fun _ => rfl) (ids1 := [0, 1, 9, 10, 11, 12, 13, 2, 14, 15, 3, 16, 4, 17, 5, 18, 6, 19, 20, 7, 21, 22, 23, 40, 41, 42, 43, 44, 24, 25, 26, 27, 28, 29, 30, 31, 45, 46, 47, 48, 49, 8, 32, 33, 34, 35, 36, 37, 38, 39, 300, 301, 302, 303, 304, 305, 306, 307, 308, 309, 310, 311, 312, 313, 314, 315, 316, 317, 318, 319, 320, 321, 322, 323, 324, 325, 326, 327, 328, 329, 330]) rfl (by decide) (by decide) (okL_mem (lv := [some (rf 300), none]) (And.intro (fun _ => Or.inr (by decide)) trivial)) (List.forall_mem_cons.mpr ⟨(fun _ => Or.inr (by decide)), fun _ h => absurd h List.not_mem_nil⟩) (by decide) (by decide) (by decide) dX11_init_232 (fun q μ175 hμ177 hcf => ?_)
  replace hf := of_lm hf hμ177
  have hCF := hcf hCF
  have hx := ext0_adu (q := q) hx (by decide : 330 ∉ [0, 1, 9, 10, 11, 12, 13, 2, 14, 15, 3, 16, 4, 17, 5, 18, 6, 19, 20, 7, 21, 22, 23, 40, 41, 42, 43, 44, 24, 25, 26, 27, 28, 29, 30, 31, 45, 46, 47, 48, 49, 8, 32, 33, 34, 35, 36, 37, 38, 39, 300]) (by decide)
  refine V0_in (fun ho176 _ => ?_)
  refine q_putR C hmn 300 (by decide) rfl (fun _ => by decide) (lyD_300 cy _ _) 44 (lyD_300 cy _ _) rfl (Nat.le_of_ble_eq_true rfl) (by decide) (by decide) (inR_lit rfl) rfl in_X11 tyX11 tyX11_ok nmX11 (by decide) tw_939 rfl rfl rfl (fun _ => rfl) (fun _ => rfl) dX11_init_234 (fun μ178 hμ180 => ?_)
  replace hf := of_lm hf hμ180
  refine V0_in (fun ho179 _ => ?_)
  refine q_aload_n C 0 rfl rfl dX11_init_237 ?_
  refine q_bipush C dX11_init_238 rfl ?_
  refine q_newa C (atype := .int) (ty := .int) 0 rfl tw_56 rfl (fun _ h => h) 20 rfl (by decide) (fun _ => rfl) (by decide) 331 (fun ad f => lyD_331 cy ad f) (fun _ => rfl) (ids1 := [0, 1, 9, 10, 11, 12, 13, 2, 14, 15, 3, 16, 4, 17, 5, 18, 6, 19, 20, 7, 21, 22, 23, 40, 41, 42, 43, 44, 24, 25, 26, 27, 28, 29, 30, 31, 45, 46, 47, 48, 49, 8, 32, 33, 34, 35, 36, 37, 38, 39, 300, 301, 302, 303, 304, 305, 306, 307, 308, 309, 310, 311, 312, 313, 314, 315, 316, 317, 318, 319, 320, 321, 322, 323, 324, 325, 326, 327, 328, 329, 330, 331]) rfl (by decide) (by decide) (okL_mem (lv := [some (rf 300), none]) (And.intro (fun _ => Or.inr (by decide)) trivial)) (List.forall_mem_cons.mpr ⟨(fun _ => Or.inr (by decide)), fun _ h => absurd h List.not_mem_nil⟩) (by decide) (by decide) (by decide) dX11_init_240 (fun q μ181 hμ183 hcf => ?_)
  replace hf := of_lm hf hμ183
  have hCF := hcf hCF
  have hx := ext0_adu (q := q) hx (by decide : 331 ∉ [0, 1, 9, 10, 11, 12, 13, 2, 14, 15, 3, 16, 4, 17, 5, 18, 6, 19, 20, 7, 21, 22, 23, 40, 41, 42, 43, 44, 24, 25, 26, 27, 28, 29, 30, 31, 45, 46, 47, 48, 49, 8, 32, 33, 34, 35, 36, 37, 38, 39, 300]) (by decide)
  refine V0_in (fun ho182 _ => ?_)
  refine q_putR C hmn 300 (by decide) rfl (fun _ => by decide) (lyD_300 cy _ _) 46 (lyD_300 cy _ _) rfl (Nat.le_of_ble_eq_true rfl) (by decide) (by decide) (inR_lit rfl) rfl in_X11 tyX11 tyX11_ok nmX11 (by decide) tw_941 rfl rfl rfl (fun _ => rfl) (fun _ => rfl) dX11_init_242 (fun μ184 hμ186 => ?_)
  replace hf := of_lm hf hμ186
  refine V0_in (fun ho185 _ => ?_)
  refine q_aload_n C 0 rfl rfl dX11_init_245 ?_
  refine q_bipush C dX11_init_246 rfl ?_
  refine q_newa C (atype := .int) (ty := .int) 0 rfl tw_56 rfl (fun _ h => h) 20 rfl (by decide) (fun _ => rfl) (by decide) 332 (fun ad f => lyD_332 cy ad f) (fun _ => rfl) (ids1 := [0, 1, 9, 10, 11, 12, 13, 2, 14, 15, 3, 16, 4, 17, 5, 18, 6, 19, 20, 7, 21, 22, 23, 40, 41, 42, 43, 44, 24, 25, 26, 27, 28, 29, 30, 31, 45, 46, 47, 48, 49, 8, 32, 33, 34, 35, 36, 37, 38, 39, 300, 301, 302, 303, 304, 305, 306, 307, 308, 309, 310, 311, 312, 313, 314, 315, 316, 317, 318, 319, 320, 321, 322, 323, 324, 325, 326, 327, 328, 329, 330, 331, 332]) rfl (by decide) (by decide) (okL_mem (lv := [some (rf 300), none]) (And.intro (fun _ => Or.inr (by decide)) trivial)) (List.forall_mem_cons.mpr ⟨(fun _ => Or.inr (by decide)), fun _ h => absurd h List.not_mem_nil⟩) (by decide) (by decide) (by decide) dX11_init_248 (fun q μ187 hμ189 hcf => ?_)
  replace hf := of_lm hf hμ189
  have hCF := hcf hCF
  have hx := ext0_adu (q := q) hx (by decide : 332 ∉ [0, 1, 9, 10, 11, 12, 13, 2, 14, 15, 3, 16, 4, 17, 5, 18, 6, 19, 20, 7, 21, 22, 23, 40, 41, 42, 43, 44, 24, 25, 26, 27, 28, 29, 30, 31, 45, 46, 47, 48, 49, 8, 32, 33, 34, 35, 36, 37, 38, 39, 300]) (by decide)
  refine V0_in (fun ho188 _ => ?_)
  refine q_putR C hmn 300 (by decide) rfl (fun _ => by decide) (lyD_300 cy _ _) 47 (lyD_300 cy _ _) rfl (Nat.le_of_ble_eq_true rfl) (by decide) (by decide) (inR_lit rfl) rfl in_X11 tyX11 tyX11_ok nmX11 (by decide) tw_942 rfl rfl rfl (fun _ => rfl) (fun _ => rfl) dX11_init_250 (fun μ190 hμ192 => ?_)
  replace hf := of_lm hf hμ192
  refine V0_in (fun ho191 _ => ?_)
  refine q_aload_n C 0 rfl rfl dX11_init_253 ?_
  refine q_bipush C dX11_init_254 rfl ?_
  refine q_newa C (atype := .int) (ty := .int) 0 rfl tw_56 rfl (fun _ h => h) 20 rfl (by decide) (fun _ => rfl) (by decide) 333 (fun ad f => lyD_333 cy ad f) (fun _ => rfl) (ids1 := [0, 1, 9, 10, 11, 12, 13, 2, 14, 15, 3, 16, 4, 17, 5, 18, 6, 19, 20, 7, 21, 22, 23, 40, 41, 42, 43, 44, 24, 25, 26, 27, 28, 29, 30, 31, 45, 46, 47, 48, 49, 8, 32, 33, 34, 35, 36, 37, 38, 39, 300, 301, 302, 303, 304, 305, 306, 307, 308, 309, 310, 311, 312, 313, 314, 315, 316, 317, 318, 319, 320, 321, 322, 323, 324, 325, 326, 327, 328, 329, 330, 331, 332, 333]) rfl (by decide) (by decide) (okL_mem (lv := [some (rf 300), none]) (And.intro (fun _ => Or.inr (by decide)) trivial)) (List.forall_mem_cons.mpr ⟨(fun _ => Or.inr (by decide)), fun _ h => absurd h List.not_mem_nil⟩) (by decide) (by decide) (by decide) dX11_init_256 (fun q μ193 hμ195 hcf => ?_)
  replace hf := of_lm hf hμ195
  have hCF := hcf hCF
  have hx := ext0_adu (q := q) hx (by decide : 333 ∉ [0, 1, 9, 10, 11, 12, 13, 2, 14, 15, 3, 16, 4, 17, 5, 18, 6, 19, 20, 7, 21, 22, 23, 40, 41, 42, 43, 44, 24, 25, 26, 27, 28, 29, 30, 31, 45, 46, 47, 48, 49, 8, 32, 33, 34, 35, 36, 37, 38, 39, 300]) (by decide)
  refine V0_in (fun ho194 _ => ?_)
  refine q_putR C hmn 300 (by decide) rfl (fun _ => by decide) (lyD_300 cy _ _) 48 (lyD_300 cy _ _) rfl (Nat.le_of_ble_eq_true rfl) (by decide) (by decide) (inR_lit rfl) rfl in_X11 tyX11 tyX11_ok nmX11 (by decide) tw_943 rfl rfl rfl (fun _ => rfl) (fun _ => rfl) dX11_init_258 (fun μ196 hμ198 => ?_)
  replace hf := of_lm hf hμ198
  refine V0_in (fun ho197 _ => ?_)
  refine q_aload_n C 0 rfl rfl dX11_init_261 ?_
  refine q_bipush C dX11_init_262 rfl ?_
  refine q_newa C (atype := .int) (ty := .int) 0 rfl tw_56 rfl (fun _ h => h) 20 rfl (by decide) (fun _ => rfl) (by decide) 334 (fun ad f => lyD_334 cy ad f) (fun _ => rfl) (ids1 := [0, 1, 9, 10, 11, 12, 13, 2, 14, 15, 3, 16, 4, 17, 5, 18, 6, 19, 20, 7, 21, 22, 23, 40, 41, 42, 43, 44, 24, 25, 26, 27, 28, 29, 30, 31, 45, 46, 47, 48, 49, 8, 32, 33, 34, 35, 36, 37, 38, 39, 300, 301, 302, 303, 304, 305, 306, 307, 308, 309, 310, 311, 312, 313, 314, 315, 316, 317, 318, 319, 320, 321, 322, 323, 324, 325, 326, 327, 328, 329, 330, 331, 332, 333, 334]) rfl (by decide) (by decide) (okL_mem (lv := [some (rf 300), none]) (And.intro (fun _ => Or.inr (by decide)) trivial)) (List.forall_mem_cons.mpr ⟨(fun _ => Or.inr (by decide)), fun _ h => absurd h List.not_mem_nil⟩) (by decide) (by decide) (by decide) dX11_init_264 (fun q μ199 hμ201 hcf => ?_)
  replace hf := of_lm hf hμ201
  have hCF := hcf hCF
  have hx := ext0_adu (q := q) hx (by decide : 334 ∉ [0, 1, 9, 10, 11, 12, 13, 2, 14, 15, 3, 16, 4, 17, 5, 18, 6, 19, 20, 7, 21, 22, 23, 40, 41, 42, 43, 44, 24, 25, 26, 27, 28, 29, 30, 31, 45, 46, 47, 48, 49, 8, 32, 33, 34, 35, 36, 37, 38, 39, 300]) (by decide)
  refine V0_in (fun ho200 _ => ?_)
  refine q_putR C hmn 300 (by decide) rfl (fun _ => by decide) (lyD_300 cy _ _) 49 (lyD_300 cy _ _) rfl (Nat.le_of_ble_eq_true rfl) (by decide) (by decide) (inR_lit rfl) rfl in_X11 tyX11 tyX11_ok nmX11 (by decide) tw_944 rfl rfl rfl (fun _ => rfl) (fun _ => rfl) dX11_init_266 (fun μ202 hμ204 => ?_)
  replace hf := of_lm hf hμ204
  refine V0_in (fun ho203 _ => ?_)
  refine q_aload_n C 0 rfl rfl dX11_init_269 ?_
  refine q_bipush C dX11_init_270 rfl ?_
  refine q_newa C (atype := .boolean) (ty := .boolean) 2 rfl tw_1058 rfl (fun _ h => h) 20 rfl (by decide) (fun _ => rfl) (by decide) 335 (fun ad f => lyD_335 cy ad f) (fun _ => rfl) (ids1 := [0, 1, 9, 10, 11, 12, 13, 2, 14, 15, 3, 16, 4, 17, 5, 18, 6, 19, 20, 7, 21, 22, 23, 40, 41, 42, 43, 44, 24, 25, 26, 27, 28, 29, 30, 31, 45, 46, 47, 48, 49, 8, 32, 33, 34, 35, 36, 37, 38, 39, 300, 301, 302, 303, 304, 305, 306, 307, 308, 309, 310, 311, 312, 313, 314, 315, 316, 317, 318, 319, 320, 321, 322, 323, 324, 325, 326, 327, 328, 329, 330, 331, 332, 333, 334, 335]) rfl (by decide) (by decide) (okL_mem (lv := [some (rf 300), none]) (And.intro (fun _ => Or.inr (by decide)) trivial)) (List.forall_mem_cons.mpr ⟨(fun _ => Or.inr (by decide)), fun _ h => absurd h List.not_mem_nil⟩) (by decide) (by decide) (by decide) dX11_init_272 (fun q μ205 hμ207 hcf => ?_)
  replace hf := of_lm hf hμ207
  have hCF := hcf hCF
  have hx := ext0_adu (q := q) hx (by decide : 335 ∉ [0, 1, 9, 10, 11, 12, 13, 2, 14, 15, 3, 16, 4, 17, 5, 18, 6, 19, 20, 7, 21, 22, 23, 40, 41, 42, 43, 44, 24, 25, 26, 27, 28, 29, 30, 31, 45, 46, 47, 48, 49, 8, 32, 33, 34, 35, 36, 37, 38, 39, 300]) (by decide)
  refine V0_in (fun ho206 _ => ?_)
  refine q_putR C hmn 300 (by decide) rfl (fun _ => by decide) (lyD_300 cy _ _) 50 (lyD_300 cy _ _) rfl (Nat.le_of_ble_eq_true rfl) (by decide) (by decide) (inR_lit rfl) rfl in_X11 tyX11 tyX11_ok nmX11 (by decide) tw_945 rfl rfl rfl (fun _ => rfl) (fun _ => rfl) dX11_init_274 (fun μ208 hμ210 => ?_)
  replace hf := of_lm hf hμ210
  refine V0_in (fun ho209 _ => ?_)
  refine q_aload_n C 0 rfl rfl dX11_init_277 ?_
  refine q_bipush C dX11_init_278 rfl ?_
  refine q_newa C (atype := .int) (ty := .int) 0 rfl tw_56 rfl (fun _ h => h) 40 rfl (by decide) (fun _ => rfl) (by decide) 336 (fun ad f => lyD_336 cy ad f) (fun _ => rfl) (ids1 := [0, 1, 9, 10, 11, 12, 13, 2, 14, 15, 3, 16, 4, 17, 5, 18, 6, 19, 20, 7, 21, 22, 23, 40, 41, 42, 43, 44, 24, 25, 26, 27, 28, 29, 30, 31, 45, 46, 47, 48, 49, 8, 32, 33, 34, 35, 36, 37, 38, 39, 300, 301, 302, 303, 304, 305, 306, 307, 308, 309, 310, 311, 312, 313, 314, 315, 316, 317, 318, 319, 320, 321, 322, 323, 324, 325, 326, 327, 328, 329, 330, 331, 332, 333, 334, 335, 336]) rfl (by decide) (by decide) (okL_mem (lv := [some (rf 300), none]) (And.intro (fun _ => Or.inr (by decide)) trivial)) (List.forall_mem_cons.mpr ⟨(fun _ => Or.inr (by decide)), fun _ h => absurd h List.not_mem_nil⟩) (by decide) (by decide) (by decide) dX11_init_280 (fun q μ211 hμ213 hcf => ?_)
  replace hf := of_lm hf hμ213
  have hCF := hcf hCF
  have hx := ext0_adu (q := q) hx (by decide : 336 ∉ [0, 1, 9, 10, 11, 12, 13, 2, 14, 15, 3, 16, 4, 17, 5, 18, 6, 19, 20, 7, 21, 22, 23, 40, 41, 42, 43, 44, 24, 25, 26, 27, 28, 29, 30, 31, 45, 46, 47, 48, 49, 8, 32, 33, 34, 35, 36, 37, 38, 39, 300]) (by decide)
  refine V0_in (fun ho212 _ => ?_)
  refine q_putR C hmn 300 (by decide) rfl (fun _ => by decide) (lyD_300 cy _ _) 52 (lyD_300 cy _ _) rfl (Nat.le_of_ble_eq_true rfl) (by decide) (by decide) (inR_lit rfl) rfl in_X11 tyX11 tyX11_ok nmX11 (by decide) tw_947 rfl rfl rfl (fun _ => rfl) (fun _ => rfl) dX11_init_282 (fun μ214 hμ216 => ?_)
  replace hf := of_lm hf hμ216
  refine V0_in (fun ho215 _ => ?_)
  refine q_aload_n C 0 rfl rfl dX11_init_285 ?_
  refine q_bipush C dX11_init_286 rfl ?_
  refine q_bipush C dX11_init_288 rfl ?_
  refine q_mna C tw_892 tw_56 hAO.2.2 40 40 rfl rfl (by decide) (by decide) 337 338 (fun ad f => lyD_337 cy ad f) lyD_g338 rp_g338 (ids1 := [0, 1, 9, 10, 11, 12, 13, 2, 14, 15, 3, 16, 4, 17, 5, 18, 6, 19, 20, 7, 21, 22, 23, 40, 41, 42, 43, 44, 24, 25, 26, 27, 28, 29, 30, 31, 45, 46, 47, 48, 49, 8, 32, 33, 34, 35, 36, 37, 38, 39, 300, 301, 302, 303, 304, 305, 306, 307, 308, 309, 310, 311, 312, 313, 314, 315, 316, 317, 318, 319, 320, 321, 322, 323, 324, 325, 326, 327, 328, 329, 330, 331, 332, 333, 334, 335, 336, 337, 338, 339, 340, 341, 342, 343, 344, 345, 346, 347, 348, 349, 350, 351, 352, 353, 354, 355, 356, 357, 358, 359, 360, 361, 362, 363, 364, 365, 366, 367, 368, 369, 370, 371, 372, 373, 374, 375, 376, 377]) rfl (by decide) (by decide) (by decide) (by decide) (okL_mem (lv := [some (rf 300), none]) (And.intro (fun _ => Or.inr (by decide)) trivial)) (List.forall_mem_cons.mpr ⟨(fun _ => Or.inr (by decide)), fun _ h => absurd h List.not_mem_nil⟩) (by decide) (by decide) (by decide) (by decide) dX11_init_290 (fun ad1 μ217 hμ219 hx1 hcf => ?_)
  replace hf := of_lm hf hμ219
  have hCF := hcf hCF
  have hx := ext0_trans hx hx1 (by decide : ∀ a ∈ [0, 1, 9, 10, 11, 12, 13, 2, 14, 15, 3, 16, 4, 17, 5, 18, 6, 19, 20, 7, 21, 22, 23, 40, 41, 42, 43, 44, 24, 25, 26, 27, 28, 29, 30, 31, 45, 46, 47, 48, 49, 8, 32, 33, 34, 35, 36, 37, 38, 39, 300], a ∈ [0, 1, 9, 10, 11, 12, 13, 2, 14, 15, 3, 16, 4, 17, 5, 18, 6, 19, 20, 7, 21, 22, 23, 40, 41, 42, 43, 44, 24, 25, 26, 27, 28, 29, 30, 31, 45, 46, 47, 48, 49, 8, 32, 33, 34, 35, 36, 37, 38, 39, 300, 301, 302, 303, 304, 305, 306, 307, 308, 309, 310, 311, 312, 313, 314, 315, 316, 317, 318, 319, 320, 321, 322, 323, 324, 325, 326, 327, 328, 329, 330, 331, 332, 333, 334, 335, 336])
  refine V0_in (fun ho218 _ => ?_)
  refine q_putR C hmn 300 (by decide) rfl (fun _ => by decide) (lyD_300 cy _ _) 53 (lyD_300 cy _ _) rfl (Nat.le_of_ble_eq_true rfl) (by decide) (by decide) (inR_lit rfl) rfl in_X11 tyX11 tyX11_ok nmX11 (by decide) tw_948 rfl rfl rfl (fun _ => rfl) (fun _ => rfl) dX11_init_294 (fun μ220 hμ222 => ?_)
  replace hf := of_lm hf hμ222
  refine V0_in (fun ho221 _ => ?_)
  refine q_iconst C dX11_init_297 ?_
  refine q_istore_n C 1 (lw := [some (rf 300), some (nu 0)]) rfl rfl (by decide) dX11_init_298 ?_
  exact V0_lw (w_X11_init_299 C hCF hx 64 0 μ220 (inR_lit rfl) hf) (And.intro rfl (And.intro rfl trivial))
