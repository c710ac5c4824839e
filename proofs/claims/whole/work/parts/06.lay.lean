/-! LAYOUT: ids 0 to 49 the system's own, 100 + k stones, 200 + k gangs, 300 to 377 the reference's; 399 the row that its plan makes -/
def tyl (cy : Nat → ClassId) : List (ClassId × FieldType) := [(cy 0, .int), (cy 1, .byte), (cy 2, .boolean), (cy 3, .object "StoneWorks$Gang"), (cy 4, .object "StoneWorks$Stone"), (cy 5, .array .int)]
abbrev ceStone (ad : Nat → Nat) (f : Nat → Int) : va_E := ceO ad 4 [nu (f 0), nu (f 1), nu (f 2), nu (f 3), nu (f 4), nu (f 5)]
abbrev ceGang (ad : Nat → Nat) (f : Nat → Int) : va_E := ceO ad 0 [nu (f 0), nu (f 1), nu (f 2), nu (f 3), nu (f 4)]
def layA (cy : Nat → ClassId) (ad : Nat → Nat) (o : Nat) (f : Nat → Int) : va_E := if o.blt 25 = true then (if o.blt 12 = true then (if o.blt 6 = true then (if o.blt 3 = true then (if o.blt 1 = true then (ceO ad 10 [rf 1, rf 2, rf 3, rf 4, rf 5, rf 6, rf 7, rf 8]) else (if o.blt 2 = true then (ceO ad 2 [rf 9, rf 10, rf 11, nu (f 3), rf 12, rf 13, nu (f 6)]) else (ceO ad 5 [rf 14, rf 15, nu (f 2), nu (f 3)]))) else (if o.blt 4 = true then (ceO ad 9 [rf 16, nu (f 1)]) else (if o.blt 5 = true then (ceO ad 6 [rf 17]) else (ceO ad 7 [rf 3, rf 18, nu (f 2), nu (f 3), nu (f 4), nu (f 5)])))) else (if o.blt 9 = true then (if o.blt 7 = true then (ceO ad 3 [rf 4, rf 1, rf 2, rf 19, rf 20, nu (f 5), nu (f 6), nu (f 7), nu (f 8), nu (f 9), nu (f 10)]) else (if o.blt 8 = true then (ceO ad 1 [rf 6, rf 4, rf 1, rf 21, rf 22, nu (f 5), rf 23, rf 24, rf 25, rf 26, rf 27, rf 28, rf 29, rf 30, nu (f 14), nu (f 15), rf 31, nu (f 17)]) else (ceO ad 8 [rf 6, rf 32, rf 33, rf 34, rf 35, nu (f 5), nu (f 6), nu (f 7), rf 36, rf 37, nu (f 10), rf 38, rf 39]))) else (if o.blt 10 = true then (ceN (cy 0) 40 f) else (if o.blt 11 = true then (ceN (cy 0) 40 f) else (ceN (cy 0) 40 f))))) else (if o.blt 18 = true then (if o.blt 15 = true then (if o.blt 13 = true then (ceN (cy 0) 40 f) else (if o.blt 14 = true then (ceN (cy 0) 40 f) else (ceN (cy 0) 40 f))) else (if o.blt 16 = true then (ceN (cy 0) 40 f) else (if o.blt 17 = true then (ceN (cy 1) 200 f) else (ceN (cy 0) 9 f)))) else (if o.blt 21 = true then (if o.blt 19 = true then (ceN (cy 0) 9 f) else (if o.blt 20 = true then (ceR ad (cy 3) 6 f) else (ceR ad (cy 4) 30 f))) else (if o.blt 23 = true then (if o.blt 22 = true then (ceR ad (cy 4) 5 f) else (ceN (cy 0) 5 f)) else (if o.blt 24 = true then (ceR ad (cy 5) 5 (fun i => 40 + (i : Int))) else (ceN (cy 0) 5 f)))))) else (if o.blt 37 = true then (if o.blt 31 = true then (if o.blt 28 = true then (if o.blt 26 = true then (ceN (cy 0) 5 f) else (if o.blt 27 = true then (ceN (cy 0) 5 f) else (ceN (cy 0) 5 f))) else (if o.blt 29 = true then (ceN (cy 0) 5 f) else (if o.blt 30 = true then (ceN (cy 0) 5 f) else (ceN (cy 0) 6 f)))) else (if o.blt 34 = true then (if o.blt 32 = true then (ceR ad (cy 5) 5 (fun i => 45 + (i : Int))) else (if o.blt 33 = true then (ceN (cy 0) 20 f) else (ceN (cy 0) 20 f))) else (if o.blt 35 = true then (ceN (cy 0) 20 f) else (if o.blt 36 = true then (ceN (cy 0) 20 f) else (ceN (cy 0) 40 f))))) else (if o.blt 43 = true then (if o.blt 40 = true then (if o.blt 38 = true then (ceN (cy 0) 40 f) else (if o.blt 39 = true then (ceN (cy 0) 20 f) else (ceN (cy 0) 20 f))) else (if o.blt 41 = true then (ceN (cy 0) 6 f) else (if o.blt 42 = true then (ceN (cy 0) 6 f) else (ceN (cy 0) 6 f)))) else (if o.blt 46 = true then (if o.blt 44 = true then (ceN (cy 0) 6 f) else (if o.blt 45 = true then (ceN (cy 0) 6 f) else (ceN (cy 0) 4 f))) else (if o.blt 48 = true then (if o.blt 47 = true then (ceN (cy 0) 4 f) else (ceN (cy 0) 4 f)) else (if o.blt 49 = true then (ceN (cy 0) 4 f) else (ceN (cy 0) 4 f))))))
def layM (cy : Nat → ClassId) (ad : Nat → Nat) (o : Nat) (f : Nat → Int) : va_E := if o.blt 338 = true then (if o.blt 319 = true then (if o.blt 309 = true then (if o.blt 304 = true then (if o.blt 302 = true then (if o.blt 301 = true then (ceO ad 11 [nu (f 0), nu (f 1), nu (f 2), nu (f 3), nu (f 4), rf 301, rf 302, rf 303, rf 304, rf 305, rf 306, rf 307, rf 308, rf 309, rf 310, nu (f 15), nu (f 16), nu (f 17), rf 311, nu (f 19), nu (f 20), nu (f 21), nu (f 22), rf 312, rf 313, rf 314, nu (f 26), rf 315, rf 316, rf 317, rf 318, rf 319, nu (f 32), nu (f 33), rf 320, rf 321, rf 322, rf 323, rf 324, rf 325, rf 326, rf 327, rf 328, rf 329, rf 330, nu (f 45), rf 331, rf 332, rf 333, rf 334, rf 335, nu (f 51), rf 336, rf 337]) else (ceN (cy 0) 6 f)) else (if o.blt 303 = true then (ceN (cy 0) 6 f) else (ceN (cy 0) 6 f))) else (if o.blt 306 = true then (if o.blt 305 = true then (ceN (cy 0) 6 f) else (ceN (cy 0) 6 f)) else (if o.blt 307 = true then (ceN (cy 0) 40 f) else (if o.blt 308 = true then (ceN (cy 0) 40 f) else (ceN (cy 0) 40 f))))) else (if o.blt 314 = true then (if o.blt 311 = true then (if o.blt 310 = true then (ceN (cy 0) 40 f) else (ceN (cy 0) 40 f)) else (if o.blt 312 = true then (ceN (cy 1) 200 f) else (if o.blt 313 = true then (ceN (cy 0) 9 f) else (ceN (cy 0) 9 f)))) else (if o.blt 316 = true then (if o.blt 315 = true then (ceN (cy 2) 9 f) else (ceN (cy 0) 30 f)) else (if o.blt 317 = true then (ceN (cy 0) 30 f) else (if o.blt 318 = true then (ceN (cy 0) 30 f) else (ceN (cy 0) 30 f)))))) else (if o.blt 328 = true then (if o.blt 323 = true then (if o.blt 321 = true then (if o.blt 320 = true then (ceN (cy 0) 30 f) else (ceN (cy 0) 5 f)) else (if o.blt 322 = true then (ceN (cy 0) 5 f) else (ceN (cy 0) 5 f))) else (if o.blt 325 = true then (if o.blt 324 = true then (ceN (cy 0) 5 f) else (ceN (cy 0) 5 f)) else (if o.blt 326 = true then (ceN (cy 0) 5 f) else (if o.blt 327 = true then (ceN (cy 0) 5 f) else (ceN (cy 0) 5 f))))) else (if o.blt 333 = true then (if o.blt 330 = true then (if o.blt 329 = true then (ceN (cy 0) 5 f) else (ceN (cy 0) 6 f)) else (if o.blt 331 = true then (ceN (cy 0) 3002 f) else (if o.blt 332 = true then (ceN (cy 0) 20 f) else (ceN (cy 0) 20 f)))) else (if o.blt 335 = true then (if o.blt 334 = true then (ceN (cy 0) 20 f) else (ceN (cy 0) 20 f)) else (if o.blt 336 = true then (ceN (cy 2) 20 f) else (if o.blt 337 = true then (ceN (cy 0) 40 f) else (ceR ad (cy 5) 40 (fun i => 338 + (i : Int))))))))) else if o.blt 378 = true then ceN (cy 0) 40 f else ceN (cy 0) 5 f
def lay (cy : Nat → ClassId) : Lay := fun ad o f => if o.blt 100 = true then layA cy ad o f else if o.blt 200 = true then ceStone ad f else if o.blt 300 = true then ceGang ad f else layM cy ad o f
theorem ly_0 (cy : Nat → ClassId) (ad : Nat → Nat) (f : Nat → Int) : lay cy ad 0 f = ceO ad 10 [rf 1, rf 2, rf 3, rf 4, rf 5, rf 6, rf 7, rf 8] := rfl
theorem ly_1 (cy : Nat → ClassId) (ad : Nat → Nat) (f : Nat → Int) : lay cy ad 1 f = ceO ad 2 [rf 9, rf 10, rf 11, nu (f 3), rf 12, rf 13, nu (f 6)] := rfl
theorem ly_2 (cy : Nat → ClassId) (ad : Nat → Nat) (f : Nat → Int) : lay cy ad 2 f = ceO ad 5 [rf 14, rf 15, nu (f 2), nu (f 3)] := rfl
theorem ly_3 (cy : Nat → ClassId) (ad : Nat → Nat) (f : Nat → Int) : lay cy ad 3 f = ceO ad 9 [rf 16, nu (f 1)] := rfl
theorem ly_4 (cy : Nat → ClassId) (ad : Nat → Nat) (f : Nat → Int) : lay cy ad 4 f = ceO ad 6 [rf 17] := rfl
theorem ly_5 (cy : Nat → ClassId) (ad : Nat → Nat) (f : Nat → Int) : lay cy ad 5 f = ceO ad 7 [rf 3, rf 18, nu (f 2), nu (f 3), nu (f 4), nu (f 5)] := rfl
theorem ly_6 (cy : Nat → ClassId) (ad : Nat → Nat) (f : Nat → Int) : lay cy ad 6 f = ceO ad 3 [rf 4, rf 1, rf 2, rf 19, rf 20, nu (f 5), nu (f 6), nu (f 7), nu (f 8), nu (f 9), nu (f 10)] := rfl
theorem ly_7 (cy : Nat → ClassId) (ad : Nat → Nat) (f : Nat → Int) : lay cy ad 7 f = ceO ad 1 [rf 6, rf 4, rf 1, rf 21, rf 22, nu (f 5), rf 23, rf 24, rf 25, rf 26, rf 27, rf 28, rf 29, rf 30, nu (f 14), nu (f 15), rf 31, nu (f 17)] := rfl
theorem ly_8 (cy : Nat → ClassId) (ad : Nat → Nat) (f : Nat → Int) : lay cy ad 8 f = ceO ad 8 [rf 6, rf 32, rf 33, rf 34, rf 35, nu (f 5), nu (f 6), nu (f 7), rf 36, rf 37, nu (f 10), rf 38, rf 39] := rfl
theorem ly_9 (cy : Nat → ClassId) (ad : Nat → Nat) (f : Nat → Int) : lay cy ad 9 f = ceN (cy 0) 40 f := rfl
theorem ly_10 (cy : Nat → ClassId) (ad : Nat → Nat) (f : Nat → Int) : lay cy ad 10 f = ceN (cy 0) 40 f := rfl
theorem ly_11 (cy : Nat → ClassId) (ad : Nat → Nat) (f : Nat → Int) : lay cy ad 11 f = ceN (cy 0) 40 f := rfl
theorem ly_12 (cy : Nat → ClassId) (ad : Nat → Nat) (f : Nat → Int) : lay cy ad 12 f = ceN (cy 0) 40 f := rfl
theorem ly_13 (cy : Nat → ClassId) (ad : Nat → Nat) (f : Nat → Int) : lay cy ad 13 f = ceN (cy 0) 40 f := rfl
theorem ly_14 (cy : Nat → ClassId) (ad : Nat → Nat) (f : Nat → Int) : lay cy ad 14 f = ceN (cy 0) 40 f := rfl
theorem ly_15 (cy : Nat → ClassId) (ad : Nat → Nat) (f : Nat → Int) : lay cy ad 15 f = ceN (cy 0) 40 f := rfl
theorem ly_16 (cy : Nat → ClassId) (ad : Nat → Nat) (f : Nat → Int) : lay cy ad 16 f = ceN (cy 1) 200 f := rfl
theorem ly_17 (cy : Nat → ClassId) (ad : Nat → Nat) (f : Nat → Int) : lay cy ad 17 f = ceN (cy 0) 9 f := rfl
theorem ly_18 (cy : Nat → ClassId) (ad : Nat → Nat) (f : Nat → Int) : lay cy ad 18 f = ceN (cy 0) 9 f := rfl
theorem ly_19 (cy : Nat → ClassId) (ad : Nat → Nat) (f : Nat → Int) : lay cy ad 19 f = ceR ad (cy 3) 6 f := rfl
theorem ly_20 (cy : Nat → ClassId) (ad : Nat → Nat) (f : Nat → Int) : lay cy ad 20 f = ceR ad (cy 4) 30 f := rfl
theorem ly_21 (cy : Nat → ClassId) (ad : Nat → Nat) (f : Nat → Int) : lay cy ad 21 f = ceR ad (cy 4) 5 f := rfl
theorem ly_22 (cy : Nat → ClassId) (ad : Nat → Nat) (f : Nat → Int) : lay cy ad 22 f = ceN (cy 0) 5 f := rfl
theorem ly_23 (cy : Nat → ClassId) (ad : Nat → Nat) (f : Nat → Int) : lay cy ad 23 f = ceR ad (cy 5) 5 (fun i => 40 + (i : Int)) := rfl
theorem ly_24 (cy : Nat → ClassId) (ad : Nat → Nat) (f : Nat → Int) : lay cy ad 24 f = ceN (cy 0) 5 f := rfl
theorem ly_25 (cy : Nat → ClassId) (ad : Nat → Nat) (f : Nat → Int) : lay cy ad 25 f = ceN (cy 0) 5 f := rfl
theorem ly_26 (cy : Nat → ClassId) (ad : Nat → Nat) (f : Nat → Int) : lay cy ad 26 f = ceN (cy 0) 5 f := rfl
theorem ly_27 (cy : Nat → ClassId) (ad : Nat → Nat) (f : Nat → Int) : lay cy ad 27 f = ceN (cy 0) 5 f := rfl
theorem ly_28 (cy : Nat → ClassId) (ad : Nat → Nat) (f : Nat → Int) : lay cy ad 28 f = ceN (cy 0) 5 f := rfl
theorem ly_29 (cy : Nat → ClassId) (ad : Nat → Nat) (f : Nat → Int) : lay cy ad 29 f = ceN (cy 0) 5 f := rfl
theorem ly_30 (cy : Nat → ClassId) (ad : Nat → Nat) (f : Nat → Int) : lay cy ad 30 f = ceN (cy 0) 6 f := rfl
theorem ly_31 (cy : Nat → ClassId) (ad : Nat → Nat) (f : Nat → Int) : lay cy ad 31 f = ceR ad (cy 5) 5 (fun i => 45 + (i : Int)) := rfl
theorem ly_32 (cy : Nat → ClassId) (ad : Nat → Nat) (f : Nat → Int) : lay cy ad 32 f = ceN (cy 0) 20 f := rfl
theorem ly_33 (cy : Nat → ClassId) (ad : Nat → Nat) (f : Nat → Int) : lay cy ad 33 f = ceN (cy 0) 20 f := rfl
theorem ly_34 (cy : Nat → ClassId) (ad : Nat → Nat) (f : Nat → Int) : lay cy ad 34 f = ceN (cy 0) 20 f := rfl
theorem ly_35 (cy : Nat → ClassId) (ad : Nat → Nat) (f : Nat → Int) : lay cy ad 35 f = ceN (cy 0) 20 f := rfl
theorem ly_36 (cy : Nat → ClassId) (ad : Nat → Nat) (f : Nat → Int) : lay cy ad 36 f = ceN (cy 0) 40 f := rfl
theorem ly_37 (cy : Nat → ClassId) (ad : Nat → Nat) (f : Nat → Int) : lay cy ad 37 f = ceN (cy 0) 40 f := rfl
theorem ly_38 (cy : Nat → ClassId) (ad : Nat → Nat) (f : Nat → Int) : lay cy ad 38 f = ceN (cy 0) 20 f := rfl
theorem ly_39 (cy : Nat → ClassId) (ad : Nat → Nat) (f : Nat → Int) : lay cy ad 39 f = ceN (cy 0) 20 f := rfl
theorem ly_40 (cy : Nat → ClassId) (ad : Nat → Nat) (f : Nat → Int) : lay cy ad 40 f = ceN (cy 0) 6 f := rfl
theorem ly_41 (cy : Nat → ClassId) (ad : Nat → Nat) (f : Nat → Int) : lay cy ad 41 f = ceN (cy 0) 6 f := rfl
theorem ly_42 (cy : Nat → ClassId) (ad : Nat → Nat) (f : Nat → Int) : lay cy ad 42 f = ceN (cy 0) 6 f := rfl
theorem ly_43 (cy : Nat → ClassId) (ad : Nat → Nat) (f : Nat → Int) : lay cy ad 43 f = ceN (cy 0) 6 f := rfl
theorem ly_44 (cy : Nat → ClassId) (ad : Nat → Nat) (f : Nat → Int) : lay cy ad 44 f = ceN (cy 0) 6 f := rfl
theorem ly_45 (cy : Nat → ClassId) (ad : Nat → Nat) (f : Nat → Int) : lay cy ad 45 f = ceN (cy 0) 4 f := rfl
theorem ly_46 (cy : Nat → ClassId) (ad : Nat → Nat) (f : Nat → Int) : lay cy ad 46 f = ceN (cy 0) 4 f := rfl
theorem ly_47 (cy : Nat → ClassId) (ad : Nat → Nat) (f : Nat → Int) : lay cy ad 47 f = ceN (cy 0) 4 f := rfl
theorem ly_48 (cy : Nat → ClassId) (ad : Nat → Nat) (f : Nat → Int) : lay cy ad 48 f = ceN (cy 0) 4 f := rfl
theorem ly_49 (cy : Nat → ClassId) (ad : Nat → Nat) (f : Nat → Int) : lay cy ad 49 f = ceN (cy 0) 4 f := rfl
theorem ly_300 (cy : Nat → ClassId) (ad : Nat → Nat) (f : Nat → Int) : lay cy ad 300 f = ceO ad 11 [nu (f 0), nu (f 1), nu (f 2), nu (f 3), nu (f 4), rf 301, rf 302, rf 303, rf 304, rf 305, rf 306, rf 307, rf 308, rf 309, rf 310, nu (f 15), nu (f 16), nu (f 17), rf 311, nu (f 19), nu (f 20), nu (f 21), nu (f 22), rf 312, rf 313, rf 314, nu (f 26), rf 315, rf 316, rf 317, rf 318, rf 319, nu (f 32), nu (f 33), rf 320, rf 321, rf 322, rf 323, rf 324, rf 325, rf 326, rf 327, rf 328, rf 329, rf 330, nu (f 45), rf 331, rf 332, rf 333, rf 334, rf 335, nu (f 51), rf 336, rf 337] := rfl
theorem ly_301 (cy : Nat → ClassId) (ad : Nat → Nat) (f : Nat → Int) : lay cy ad 301 f = ceN (cy 0) 6 f := rfl
theorem ly_302 (cy : Nat → ClassId) (ad : Nat → Nat) (f : Nat → Int) : lay cy ad 302 f = ceN (cy 0) 6 f := rfl
theorem ly_303 (cy : Nat → ClassId) (ad : Nat → Nat) (f : Nat → Int) : lay cy ad 303 f = ceN (cy 0) 6 f := rfl
theorem ly_304 (cy : Nat → ClassId) (ad : Nat → Nat) (f : Nat → Int) : lay cy ad 304 f = ceN (cy 0) 6 f := rfl
theorem ly_305 (cy : Nat → ClassId) (ad : Nat → Nat) (f : Nat → Int) : lay cy ad 305 f = ceN (cy 0) 6 f := rfl
theorem ly_306 (cy : Nat → ClassId) (ad : Nat → Nat) (f : Nat → Int) : lay cy ad 306 f = ceN (cy 0) 40 f := rfl
theorem ly_307 (cy : Nat → ClassId) (ad : Nat → Nat) (f : Nat → Int) : lay cy ad 307 f = ceN (cy 0) 40 f := rfl
theorem ly_308 (cy : Nat → ClassId) (ad : Nat → Nat) (f : Nat → Int) : lay cy ad 308 f = ceN (cy 0) 40 f := rfl
theorem ly_309 (cy : Nat → ClassId) (ad : Nat → Nat) (f : Nat → Int) : lay cy ad 309 f = ceN (cy 0) 40 f := rfl
theorem ly_310 (cy : Nat → ClassId) (ad : Nat → Nat) (f : Nat → Int) : lay cy ad 310 f = ceN (cy 0) 40 f := rfl
theorem ly_311 (cy : Nat → ClassId) (ad : Nat → Nat) (f : Nat → Int) : lay cy ad 311 f = ceN (cy 1) 200 f := rfl
theorem ly_312 (cy : Nat → ClassId) (ad : Nat → Nat) (f : Nat → Int) : lay cy ad 312 f = ceN (cy 0) 9 f := rfl
theorem ly_313 (cy : Nat → ClassId) (ad : Nat → Nat) (f : Nat → Int) : lay cy ad 313 f = ceN (cy 0) 9 f := rfl
theorem ly_314 (cy : Nat → ClassId) (ad : Nat → Nat) (f : Nat → Int) : lay cy ad 314 f = ceN (cy 2) 9 f := rfl
theorem ly_315 (cy : Nat → ClassId) (ad : Nat → Nat) (f : Nat → Int) : lay cy ad 315 f = ceN (cy 0) 30 f := rfl
theorem ly_316 (cy : Nat → ClassId) (ad : Nat → Nat) (f : Nat → Int) : lay cy ad 316 f = ceN (cy 0) 30 f := rfl
theorem ly_317 (cy : Nat → ClassId) (ad : Nat → Nat) (f : Nat → Int) : lay cy ad 317 f = ceN (cy 0) 30 f := rfl
theorem ly_318 (cy : Nat → ClassId) (ad : Nat → Nat) (f : Nat → Int) : lay cy ad 318 f = ceN (cy 0) 30 f := rfl
theorem ly_319 (cy : Nat → ClassId) (ad : Nat → Nat) (f : Nat → Int) : lay cy ad 319 f = ceN (cy 0) 30 f := rfl
theorem ly_320 (cy : Nat → ClassId) (ad : Nat → Nat) (f : Nat → Int) : lay cy ad 320 f = ceN (cy 0) 5 f := rfl
theorem ly_321 (cy : Nat → ClassId) (ad : Nat → Nat) (f : Nat → Int) : lay cy ad 321 f = ceN (cy 0) 5 f := rfl
theorem ly_322 (cy : Nat → ClassId) (ad : Nat → Nat) (f : Nat → Int) : lay cy ad 322 f = ceN (cy 0) 5 f := rfl
theorem ly_323 (cy : Nat → ClassId) (ad : Nat → Nat) (f : Nat → Int) : lay cy ad 323 f = ceN (cy 0) 5 f := rfl
theorem ly_324 (cy : Nat → ClassId) (ad : Nat → Nat) (f : Nat → Int) : lay cy ad 324 f = ceN (cy 0) 5 f := rfl
theorem ly_325 (cy : Nat → ClassId) (ad : Nat → Nat) (f : Nat → Int) : lay cy ad 325 f = ceN (cy 0) 5 f := rfl
theorem ly_326 (cy : Nat → ClassId) (ad : Nat → Nat) (f : Nat → Int) : lay cy ad 326 f = ceN (cy 0) 5 f := rfl
theorem ly_327 (cy : Nat → ClassId) (ad : Nat → Nat) (f : Nat → Int) : lay cy ad 327 f = ceN (cy 0) 5 f := rfl
theorem ly_328 (cy : Nat → ClassId) (ad : Nat → Nat) (f : Nat → Int) : lay cy ad 328 f = ceN (cy 0) 5 f := rfl
theorem ly_329 (cy : Nat → ClassId) (ad : Nat → Nat) (f : Nat → Int) : lay cy ad 329 f = ceN (cy 0) 6 f := rfl
theorem ly_330 (cy : Nat → ClassId) (ad : Nat → Nat) (f : Nat → Int) : lay cy ad 330 f = ceN (cy 0) 3002 f := rfl
theorem ly_331 (cy : Nat → ClassId) (ad : Nat → Nat) (f : Nat → Int) : lay cy ad 331 f = ceN (cy 0) 20 f := rfl
theorem ly_332 (cy : Nat → ClassId) (ad : Nat → Nat) (f : Nat → Int) : lay cy ad 332 f = ceN (cy 0) 20 f := rfl
theorem ly_333 (cy : Nat → ClassId) (ad : Nat → Nat) (f : Nat → Int) : lay cy ad 333 f = ceN (cy 0) 20 f := rfl
theorem ly_334 (cy : Nat → ClassId) (ad : Nat → Nat) (f : Nat → Int) : lay cy ad 334 f = ceN (cy 0) 20 f := rfl
theorem ly_335 (cy : Nat → ClassId) (ad : Nat → Nat) (f : Nat → Int) : lay cy ad 335 f = ceN (cy 2) 20 f := rfl
theorem ly_336 (cy : Nat → ClassId) (ad : Nat → Nat) (f : Nat → Int) : lay cy ad 336 f = ceN (cy 0) 40 f := rfl
theorem ly_337 (cy : Nat → ClassId) (ad : Nat → Nat) (f : Nat → Int) : lay cy ad 337 f = ceR ad (cy 5) 40 (fun i => 338 + (i : Int)) := rfl
theorem ly_338 (cy : Nat → ClassId) (ad : Nat → Nat) (f : Nat → Int) : lay cy ad 338 f = ceN (cy 0) 40 f := rfl
theorem ly_339 (cy : Nat → ClassId) (ad : Nat → Nat) (f : Nat → Int) : lay cy ad 339 f = ceN (cy 0) 40 f := rfl
theorem ly_340 (cy : Nat → ClassId) (ad : Nat → Nat) (f : Nat → Int) : lay cy ad 340 f = ceN (cy 0) 40 f := rfl
theorem ly_341 (cy : Nat → ClassId) (ad : Nat → Nat) (f : Nat → Int) : lay cy ad 341 f = ceN (cy 0) 40 f := rfl
theorem ly_342 (cy : Nat → ClassId) (ad : Nat → Nat) (f : Nat → Int) : lay cy ad 342 f = ceN (cy 0) 40 f := rfl
theorem ly_343 (cy : Nat → ClassId) (ad : Nat → Nat) (f : Nat → Int) : lay cy ad 343 f = ceN (cy 0) 40 f := rfl
theorem ly_344 (cy : Nat → ClassId) (ad : Nat → Nat) (f : Nat → Int) : lay cy ad 344 f = ceN (cy 0) 40 f := rfl
theorem ly_345 (cy : Nat → ClassId) (ad : Nat → Nat) (f : Nat → Int) : lay cy ad 345 f = ceN (cy 0) 40 f := rfl
theorem ly_346 (cy : Nat → ClassId) (ad : Nat → Nat) (f : Nat → Int) : lay cy ad 346 f = ceN (cy 0) 40 f := rfl
theorem ly_347 (cy : Nat → ClassId) (ad : Nat → Nat) (f : Nat → Int) : lay cy ad 347 f = ceN (cy 0) 40 f := rfl
theorem ly_348 (cy : Nat → ClassId) (ad : Nat → Nat) (f : Nat → Int) : lay cy ad 348 f = ceN (cy 0) 40 f := rfl
theorem ly_349 (cy : Nat → ClassId) (ad : Nat → Nat) (f : Nat → Int) : lay cy ad 349 f = ceN (cy 0) 40 f := rfl
theorem ly_350 (cy : Nat → ClassId) (ad : Nat → Nat) (f : Nat → Int) : lay cy ad 350 f = ceN (cy 0) 40 f := rfl
theorem ly_351 (cy : Nat → ClassId) (ad : Nat → Nat) (f : Nat → Int) : lay cy ad 351 f = ceN (cy 0) 40 f := rfl
theorem ly_352 (cy : Nat → ClassId) (ad : Nat → Nat) (f : Nat → Int) : lay cy ad 352 f = ceN (cy 0) 40 f := rfl
theorem ly_353 (cy : Nat → ClassId) (ad : Nat → Nat) (f : Nat → Int) : lay cy ad 353 f = ceN (cy 0) 40 f := rfl
theorem ly_354 (cy : Nat → ClassId) (ad : Nat → Nat) (f : Nat → Int) : lay cy ad 354 f = ceN (cy 0) 40 f := rfl
theorem ly_355 (cy : Nat → ClassId) (ad : Nat → Nat) (f : Nat → Int) : lay cy ad 355 f = ceN (cy 0) 40 f := rfl
theorem ly_356 (cy : Nat → ClassId) (ad : Nat → Nat) (f : Nat → Int) : lay cy ad 356 f = ceN (cy 0) 40 f := rfl
theorem ly_357 (cy : Nat → ClassId) (ad : Nat → Nat) (f : Nat → Int) : lay cy ad 357 f = ceN (cy 0) 40 f := rfl
theorem ly_358 (cy : Nat → ClassId) (ad : Nat → Nat) (f : Nat → Int) : lay cy ad 358 f = ceN (cy 0) 40 f := rfl
theorem ly_359 (cy : Nat → ClassId) (ad : Nat → Nat) (f : Nat → Int) : lay cy ad 359 f = ceN (cy 0) 40 f := rfl
theorem ly_360 (cy : Nat → ClassId) (ad : Nat → Nat) (f : Nat → Int) : lay cy ad 360 f = ceN (cy 0) 40 f := rfl
theorem ly_361 (cy : Nat → ClassId) (ad : Nat → Nat) (f : Nat → Int) : lay cy ad 361 f = ceN (cy 0) 40 f := rfl
theorem ly_362 (cy : Nat → ClassId) (ad : Nat → Nat) (f : Nat → Int) : lay cy ad 362 f = ceN (cy 0) 40 f := rfl
theorem ly_363 (cy : Nat → ClassId) (ad : Nat → Nat) (f : Nat → Int) : lay cy ad 363 f = ceN (cy 0) 40 f := rfl
theorem ly_364 (cy : Nat → ClassId) (ad : Nat → Nat) (f : Nat → Int) : lay cy ad 364 f = ceN (cy 0) 40 f := rfl
theorem ly_365 (cy : Nat → ClassId) (ad : Nat → Nat) (f : Nat → Int) : lay cy ad 365 f = ceN (cy 0) 40 f := rfl
theorem ly_366 (cy : Nat → ClassId) (ad : Nat → Nat) (f : Nat → Int) : lay cy ad 366 f = ceN (cy 0) 40 f := rfl
theorem ly_367 (cy : Nat → ClassId) (ad : Nat → Nat) (f : Nat → Int) : lay cy ad 367 f = ceN (cy 0) 40 f := rfl
theorem ly_368 (cy : Nat → ClassId) (ad : Nat → Nat) (f : Nat → Int) : lay cy ad 368 f = ceN (cy 0) 40 f := rfl
theorem ly_369 (cy : Nat → ClassId) (ad : Nat → Nat) (f : Nat → Int) : lay cy ad 369 f = ceN (cy 0) 40 f := rfl
theorem ly_370 (cy : Nat → ClassId) (ad : Nat → Nat) (f : Nat → Int) : lay cy ad 370 f = ceN (cy 0) 40 f := rfl
theorem ly_371 (cy : Nat → ClassId) (ad : Nat → Nat) (f : Nat → Int) : lay cy ad 371 f = ceN (cy 0) 40 f := rfl
theorem ly_372 (cy : Nat → ClassId) (ad : Nat → Nat) (f : Nat → Int) : lay cy ad 372 f = ceN (cy 0) 40 f := rfl
theorem ly_373 (cy : Nat → ClassId) (ad : Nat → Nat) (f : Nat → Int) : lay cy ad 373 f = ceN (cy 0) 40 f := rfl
theorem ly_374 (cy : Nat → ClassId) (ad : Nat → Nat) (f : Nat → Int) : lay cy ad 374 f = ceN (cy 0) 40 f := rfl
theorem ly_375 (cy : Nat → ClassId) (ad : Nat → Nat) (f : Nat → Int) : lay cy ad 375 f = ceN (cy 0) 40 f := rfl
theorem ly_376 (cy : Nat → ClassId) (ad : Nat → Nat) (f : Nat → Int) : lay cy ad 376 f = ceN (cy 0) 40 f := rfl
theorem ly_377 (cy : Nat → ClassId) (ad : Nat → Nat) (f : Nat → Int) : lay cy ad 377 f = ceN (cy 0) 40 f := rfl
theorem ly_399 (cy : Nat → ClassId) (ad : Nat → Nat) (f : Nat → Int) : lay cy ad 399 f = ceN (cy 0) 5 f := rfl
abbrev stq (μ : Mem) (x : Int) : Prop := 100 ≤ x ∧ x < 100 + μ 90 0 ∧ x < 200
abbrev gaq (μ : Mem) (x : Int) : Prop := 200 ≤ x ∧ x < 200 + μ 90 1 ∧ x < 300
theorem ly_st (cy : Nat → ClassId) (ad : Nat → Nat) {μ : Mem} {x : Int} (h : stq μ x) (f : Nat → Int) : lay cy ad x.toNat f = ceStone ad f := by
  unfold lay
  rw [if_neg (by rw [Nat.blt_eq]; omega), if_pos (by rw [Nat.blt_eq]; omega)]
theorem ly_ga (cy : Nat → ClassId) (ad : Nat → Nat) {μ : Mem} {x : Int} (h : gaq μ x) (f : Nat → Int) : lay cy ad x.toNat f = ceGang ad f := by
  unfold lay
  rw [if_neg (by rw [Nat.blt_eq]; omega), if_neg (by rw [Nat.blt_eq]; omega), if_pos (by rw [Nat.blt_eq]; omega)]
theorem st_0 {μ : Mem} {x : Int} (h : stq μ x) : 0 ≤ x := by omega
theorem ga_0 {μ : Mem} {x : Int} (h : gaq μ x) : 0 ≤ x := by omega
theorem st_9 {μ : Mem} {x : Int} (h : stq μ x) : x.toNat ≠ 90 := by omega
theorem ga_9 {μ : Mem} {x : Int} (h : gaq μ x) : x.toNat ≠ 90 := by omega
theorem st_m {ids : List Nat} {μ : Mem} {x : Int} (h : stq μ x) (hg : gho ids μ) : x.toNat ∈ ids := by
  have := hg.2.1 (x.toNat - 100) (by omega)
  rwa [show 100 + (x.toNat - 100) = x.toNat by omega] at this
theorem ga_m {ids : List Nat} {μ : Mem} {x : Int} (h : gaq μ x) (hg : gho ids μ) : x.toNat ∈ ids := by
  have := hg.2.2 (x.toNat - 200) (by omega)
  rwa [show 200 + (x.toNat - 200) = x.toNat by omega] at this
theorem fx_m {ids : List Nat} {μ : Mem} {o : Nat} (h : bas o = true) (hg : gho ids μ) : o ∈ ids := hg.1 o h
theorem ly_r40 (cy : Nat → ClassId) (ad : Nat → Nat) {z : Int} (h : 0 ≤ z ∧ z < 5) (f : Nat → Int) : lay cy ad (40 + z).toNat f = ceN (cy 0) 6 f := by
  obtain ⟨k, rfl⟩ : ∃ k : Nat, z = (k : Int) := ⟨z.toNat, by omega⟩
  have hk : k < 5 := by omega
  rw [show ((40 : Int) + (k : Int)).toNat = 40 + k by omega]
  match k, hk with
  | 0, _ => rfl
  | 1, _ => rfl
  | 2, _ => rfl
  | 3, _ => rfl
  | 4, _ => rfl
theorem ba_r40 {ids : List Nat} {μ : Mem} {z : Int} (h : 0 ≤ z ∧ z < 5) (hg : gho ids μ) : (40 + z).toNat ∈ ids := hg.1 _ (by
  unfold bas
  rw [Bool.or_eq_true, Bool.and_eq_true, Nat.blt_eq, Nat.blt_eq, Nat.ble_eq]
  omega)
theorem ly_r45 (cy : Nat → ClassId) (ad : Nat → Nat) {z : Int} (h : 0 ≤ z ∧ z < 5) (f : Nat → Int) : lay cy ad (45 + z).toNat f = ceN (cy 0) 4 f := by
  obtain ⟨k, rfl⟩ : ∃ k : Nat, z = (k : Int) := ⟨z.toNat, by omega⟩
  have hk : k < 5 := by omega
  rw [show ((45 : Int) + (k : Int)).toNat = 45 + k by omega]
  match k, hk with
  | 0, _ => rfl
  | 1, _ => rfl
  | 2, _ => rfl
  | 3, _ => rfl
  | 4, _ => rfl
theorem ba_r45 {ids : List Nat} {μ : Mem} {z : Int} (h : 0 ≤ z ∧ z < 5) (hg : gho ids μ) : (45 + z).toNat ∈ ids := hg.1 _ (by
  unfold bas
  rw [Bool.or_eq_true, Bool.and_eq_true, Nat.blt_eq, Nat.blt_eq, Nat.ble_eq]
  omega)
theorem ly_r338 (cy : Nat → ClassId) (ad : Nat → Nat) {z : Int} (h : 0 ≤ z ∧ z < 40) (f : Nat → Int) : lay cy ad (338 + z).toNat f = ceN (cy 0) 40 f := by
  obtain ⟨k, rfl⟩ : ∃ k : Nat, z = (k : Int) := ⟨z.toNat, by omega⟩
  have hk : k < 40 := by omega
  rw [show ((338 : Int) + (k : Int)).toNat = 338 + k by omega]
  unfold lay layM
  rw [if_neg (by rw [Nat.blt_eq]; omega), if_neg (by rw [Nat.blt_eq]; omega), if_neg (by rw [Nat.blt_eq]; omega), if_neg (by rw [Nat.blt_eq]; omega), if_pos (by rw [Nat.blt_eq]; omega)]
theorem ba_r338 {ids : List Nat} {μ : Mem} {z : Int} (h : 0 ≤ z ∧ z < 40) (hg : gho ids μ) : (338 + z).toNat ∈ ids := hg.1 _ (by
  unfold bas
  rw [Bool.or_eq_true, Bool.and_eq_true, Nat.blt_eq, Nat.blt_eq, Nat.ble_eq]
  omega)
theorem in_X0 : ∀ w ∈ u_ws RX0 TX0 5, w ∈ WS := by decide +kernel
theorem in_X1 : ∀ w ∈ u_ws RX1 TX1 18, w ∈ WS := by decide +kernel
theorem in_X2 : ∀ w ∈ u_ws RX2 TX2 7, w ∈ WS := by decide +kernel
theorem in_X3 : ∀ w ∈ u_ws RX3 TX3 11, w ∈ WS := by decide +kernel
theorem in_X4 : ∀ w ∈ u_ws RX4 TX4 6, w ∈ WS := by decide +kernel
theorem in_X5 : ∀ w ∈ u_ws RX5 TX5 4, w ∈ WS := by decide +kernel
theorem in_X6 : ∀ w ∈ u_ws RX6 TX6 1, w ∈ WS := by decide +kernel
theorem in_X7 : ∀ w ∈ u_ws RX7 TX7 6, w ∈ WS := by decide +kernel
theorem in_X8 : ∀ w ∈ u_ws RX8 TX8 13, w ∈ WS := by decide +kernel
theorem in_X9 : ∀ w ∈ u_ws RX9 TX9 2, w ∈ WS := by decide +kernel
theorem in_X10 : ∀ w ∈ u_ws RX10 TX10 8, w ∈ WS := by decide +kernel
theorem in_X11 : ∀ w ∈ u_ws RX11 TX11 54, w ∈ WS := by decide +kernel
