/-! PLAN'S ROW: the id 399 comes, and is forgotten at the end -/
def nr399 (μ : Mem) : Bool := (List.range 30).all (fun j => decide (μ 19 j < 300) && decide (μ 20 j < 300) && decide (μ 21 j < 300))
theorem nr399_of {μ : Mem} (h : nr399 μ = true) : ∀ a, refA a = true → ∀ j, j < 30 → μ a j < 0 ∨ (μ a j).toNat ≠ 399 := by
  intro a ha j hj
  have h1 := List.all_eq_true.mp h j (List.mem_range.mpr hj)
  simp only [Bool.and_eq_true, decide_eq_true_eq] at h1
  unfold refA at ha
  simp only [Bool.or_eq_true, beq_iff_eq] at ha
  rcases ha with (rfl | rfl) | rfl <;> omega
def newP (μ : Mem) : Mem := fun a => if a = 399 then (fun _ => 0) else μ a
theorem adu_back (ad : Nat → Nat) (o q : Nat) : adu (adu ad o q) o (ad o) = ad := by
  funext k
  unfold adu
  split
  · rename_i h
    rw [h]
  · rfl
theorem hid_of {ids : List Nat} {μ : Mem} (hok : idsOK ids μ) (hb : 0 ≤ μ 90 0 ∧ μ 90 0 < 100 ∧ 0 ≤ μ 90 1 ∧ μ 90 1 < 100) : ∀ a ∈ ids, bas a = true ∨ (100 ≤ a ∧ a < 300) := fun a ha => by
  rcases (hok a).mp ha with h1 | h1 | h1
  · exact Or.inl h1
  · exact Or.inr ⟨by omega, by omega⟩
  · exact Or.inr ⟨by omega, by omega⟩
theorem hn_of {ids : List Nat} (hid : ∀ a ∈ ids, bas a = true ∨ (100 ≤ a ∧ a < 300)) : 399 ∉ ids := fun h => by
  have := hid 399 h
  revert this
  decide
theorem gho_less {ids : List Nat} {μ : Mem} (hg : gho (ids ++ [399]) μ) (h : ∀ o, bas o = true ∨ (100 ≤ o ∧ (o : Int) < 100 + μ 90 0) ∨ (200 ≤ o ∧ (o : Int) < 200 + μ 90 1) → o ∈ ids) : gho ids μ :=
  ⟨fun o ho => h o (Or.inl ho), fun k hk => h _ (Or.inr (Or.inl ⟨by omega, by omega⟩)), fun k hk => h _ (Or.inr (Or.inr ⟨by omega, by omega⟩))⟩
theorem wld_drop {cy : Nat → ClassId} {D : va_G} {cl : List vw_C} {ids : List Nat} {ad : Nat → Nat} {μ : Mem} {q : Nat} {H : Heap} (hid : ∀ a ∈ ids, bas a = true ∨ (100 ≤ a ∧ a < 300)) (hn : 399 ∉ ids) (hnr : nr399 μ = true) (hP : va_P D cl (wld (lay cy) (ids ++ [399]) (adu ad 399 q) μ) H) : va_P D cl (wld (lay cy) ids ad μ) H := by
  intro k x hx
  unfold wld at hx
  rw [List.getElem?_map] at hx
  cases hk : ids[k]? with
  | none => rw [hk] at hx; cases hx
  | some a =>
    rw [hk] at hx
    cases hx
    have ha := List.mem_of_getElem? hk
    have hlt := (List.getElem?_eq_some_iff.mp hk).1
    have hne : a ≠ 399 := fun h => hn (h ▸ ha)
    have h1 := hP k (adu ad 399 q a, lay cy (adu ad 399 q) a (μ a)) (by
      unfold wld
      rw [List.getElem?_map, List.getElem?_append_left hlt, hk]
      rfl)
    rw [adu_ne hne] at h1
    have h2 := se_all (cy := cy) (ad := adu ad 399 q) (o := 399) (q := ad 399) (f := μ a) (Or.inr rfl) (hid a ha) (fun h j hj => nr399_of hnr a h j hj) D cl (ad a) H h1
    rw [adu_back] at h2
    exact h2
theorem wld_dropD {cy : Nat → ClassId} {A : Nat → Prop} {ids : List Nat} {ad : Nat → Nat} {μ : Mem} {q : Nat} (hn : 399 ∉ ids) (hD : va_D A (wld (lay cy) (ids ++ [399]) (adu ad 399 q) μ)) : va_D A (wld (lay cy) ids ad μ) := by
  have key : ∀ (k : Nat) (x : Nat × va_E), (wld (lay cy) ids ad μ)[k]? = some x → ∃ e', (wld (lay cy) (ids ++ [399]) (adu ad 399 q) μ)[k]? = some (x.1, e') := by
    intro k x hx
    unfold wld at hx
    rw [List.getElem?_map] at hx
    cases hk : ids[k]? with
    | none => rw [hk] at hx; cases hx
    | some a =>
      rw [hk] at hx
      cases hx
      have ha := List.mem_of_getElem? hk
      have hlt := (List.getElem?_eq_some_iff.mp hk).1
      have hne : a ≠ 399 := fun h => hn (h ▸ ha)
      refine ⟨lay cy (adu ad 399 q) a (μ a), ?_⟩
      unfold wld
      rw [List.getElem?_map, List.getElem?_append_left hlt, hk]
      show some (adu ad 399 q a, lay cy (adu ad 399 q) a (μ a)) = some (ad a, lay cy (adu ad 399 q) a (μ a))
      rw [adu_ne hne]
  refine ⟨fun i j x y hx hy hxy => ?_, fun k x hx => ?_⟩
  · obtain ⟨e1, h1⟩ := key i x hx
    obtain ⟨e2, h2⟩ := key j y hy
    exact hD.1 i j _ _ h1 h2 hxy
  · obtain ⟨e1, h1⟩ := key k x hx
    exact hD.2 k (x.1, e1) h1
section VP
variable {p : Program} {l : Launch} {e : Env} {R : Room} {s : State} {m : MethodId} {args : Array Value} {below : List Frame} {meth : Method} {c : Code} {cells slots : Nat} {Q : State → Prop} {D : va_G} {tys : List (ClassId × FieldType)} {A : Nat → Prop} {ly : Lay} {ids : List Nat} {ad : Nat → Nat} {nL : Nat} {cc : ByteArray} {own : String} {ret : Option FieldType} {μ : Mem} {pc : Nat} {lv : LV} {st : List AV} {r : Int}
theorem r_newP {cy : Nat → ClassId} (C : Cx p s m args meth c D (tyl cy) A nL cc own ret) (hac : Cond.arrayClass .int ∈ WS) (hid : ∀ a ∈ ids, bas a = true ∨ (100 ≤ a ∧ a < 300)) (hn : 399 ∉ ids) (hnr : nr399 μ = true) (hlv : ∀ v, some v ∈ lv → v.1 = true → v.2 < 0 ∨ v.2.toNat ≠ 399) (hst : ∀ v ∈ st, v.1 = true → v.2 < 0 ∨ v.2.toNat ≠ 399) (hcells : cells + 1 ≤ R.cells) (hslots : slots + 5 ≤ R.slots) (hd : decode cc pc = .ok (.newarray .int, 2)) (kk : ∀ (q : Nat) (μ1 : Mem), μ1 = newP μ → (CF ad A s → CF (adu ad 399 q) A s) → V p l e R s m args below meth c (cells + 1) (slots + 5) Q D A (lay cy) (ids ++ [399]) (adu ad 399 q) nL μ1 (pc + 2) lv (rf 399 :: st)) : V p l e R s m args below meth c cells slots Q D A (lay cy) ids ad nL μ pc lv (nu 5 :: st) := by
  intro ho hg H locs hP hD hS ls hl
  rw [List.map_cons, vv_nu]
  refine va_newa (atype := .int) (N' := 5) (a0 := (5, .inl (fun _ => zI 0))) (ty := .int) C.1 C.2.1 (C.2.2.2.2.1 _ hac) rfl C.2.2.2.2.2.1 hP hD hS C.2.2.2.2.2.2.1 (fun _ => rfl) (by decide) (by decide) (by decide) hcells hslots hd (fun q cA H1 hK1 hP1 hD1 hS1 => ?_)
  have e1 : s.vm.findClass ("[" ++ FieldType.int.toString) = some cA := (hK1.2 6 (cA, .int) rfl).2
  have e2 : s.vm.findClass ("[" ++ FieldType.int.toString) = some (cy 0) := (C.2.2.2.2.2.1.2 0 (cy 0, .int) rfl).2
  have e3 : cA = cy 0 := Option.some.inj (e1.symm.trans e2)
  subst e3
  have h9 : ∀ a ∈ ids, newP μ a = μ a := fun a ha => by
    have hne : a ≠ 399 := fun h => hn (h ▸ ha)
    unfold newP
    rw [if_neg hne]
  have hcell : lay cy (adu ad 399 q) 399 (newP μ 399) = .inl (cy 0, 5, .inl (fun _ => zI 0)) := by
    rw [ly_399]
    rfl
  have K := kk q (newP μ) rfl (CF_adu (by decide)) ?_ ?_ H1 locs (wld_P hid (Or.inr rfl) hn h9 (nr399_of hnr) hcell hP1) (wld_D hn hD1) hS1 ls (by rw [lvp_adu hlv]; exact hl)
  · rw [List.map_cons, map_adu hst, vv_rf, rv_at (by decide), show (399 : Int).toNat = 399 from rfl, adu_at] at K
    exact K
  · intro a j
    unfold newP
    split
    · exact z0_in
    · exact ho a j
  · refine ⟨fun a ha => List.mem_append_left _ (hg.1 a ha), fun k hk => List.mem_append_left _ (hg.2.1 k hk), fun k hk => List.mem_append_left _ (hg.2.2 k hk)⟩
theorem r_iretD {cy : Nat → ClassId} (C : Cx p s m args meth c D (tyl cy) A nL cc own ret) {q mc ms : Nat} (hr : ret = some .int) (hrr : inR r) (hid : ∀ a ∈ ids, bas a = true ∨ (100 ≤ a ∧ a < 300)) (hok : idsOK ids μ) (hnr : nr399 μ = true) (hmc : cells ≤ mc) (hms : slots ≤ ms) (hd : decode cc pc = .ok (.ireturn, 1)) : V p l e R s m args below meth c cells slots (MQ below (aIN D (tyl cy) (lay cy) ids ad A r μ) args s mc ms A) D A (lay cy) (ids ++ [399]) (adu ad 399 q) nL μ pc lv [nu r] := by
  intro ho hg H locs hP hD hS ls hl
  refine W.widen hmc hms ?_
  have hn0 := hn_of hid
  have hgl := gho_less hg (fun o h => (hok o).mpr h)
  exact W.iret (v := zI r) C.1 C.2.1 (C.2.2.2.2.2.2.2.1.trans hr) (fun t ht hW => ⟨⟨zI r, (ids, ad), rfl, ⟨⟨rfl, hok, fun _ _ => rfl, fun _ _ => rfl⟩, hrr⟩, ⟨ho, hgl, by rw [ht]; exact wld_drop hid hn0 hnr hP, va_K.moved hW.alike C.2.2.2.2.2.1, wld_dropD hn0 hD⟩⟩, hS.F ht⟩) hS.2.2 hd C.2.2.2.2.2.2.2.2.1
end VP
def f_X11_plan_150 (k112 : Int → Int → Mem → Option (Int × Mem)) (k122 : Int → Int → Int → Mem → Option (Int × Mem)) : Nat → Int → Int → Int → Int → Mem → Option (Int × Mem)
  | 0, _, _, _, _, _ => none
  | n + 1, v1, v4, v5, v6, μ => if v5 ≤ v6 then (if inR (v5 + 1) then (k122 v1 v4 (v5 + 1) μ) else none) else (if v4 = 0 then (if inR (v6 + 1) then (f_X11_plan_150 k112 k122 n v1 0 v5 (v6 + 1) μ) else none) else (if 0 ≤ v6 ∧ v6 < 5 then if 0 ≤ v5 ∧ v5 < 5 then if (μ 399 v6.toNat) = (μ 399 v5.toNat) then (if inR (v6 + 1) then (f_X11_plan_150 k112 k122 n v1 0 v5 (v6 + 1) μ) else none) else (if inR (v6 + 1) then (f_X11_plan_150 k112 k122 n v1 1 v5 (v6 + 1) μ) else none) else none else none))
theorem f_X11_plan_150_e (k112 : Int → Int → Mem → Option (Int × Mem)) (k122 : Int → Int → Int → Mem → Option (Int × Mem)) (n : Nat) (v1 v4 v5 v6 : Int) (μ : Mem) : f_X11_plan_150 k112 k122 (n + 1) v1 v4 v5 v6 μ = if v5 ≤ v6 then (if inR (v5 + 1) then (k122 v1 v4 (v5 + 1) μ) else none) else (if v4 = 0 then (if inR (v6 + 1) then (f_X11_plan_150 k112 k122 n v1 0 v5 (v6 + 1) μ) else none) else (if 0 ≤ v6 ∧ v6 < 5 then if 0 ≤ v5 ∧ v5 < 5 then if (μ 399 v6.toNat) = (μ 399 v5.toNat) then (if inR (v6 + 1) then (f_X11_plan_150 k112 k122 n v1 0 v5 (v6 + 1) μ) else none) else (if inR (v6 + 1) then (f_X11_plan_150 k112 k122 n v1 1 v5 (v6 + 1) μ) else none) else none else none)) := rfl
def f_X11_plan_122 (k112 : Int → Int → Mem → Option (Int × Mem)) : Nat → Int → Int → Int → Mem → Option (Int × Mem)
  | 0, _, _, _, _ => none
  | n + 1, v1, v4, v5, μ => if (μ 300 32) ≤ v5 then (if v4 = 0 then (bd (f_X11_goesOnP μ (μ 300 32)) fun r3 μ4 => (k112 v1 r3 μ4)) else (bd (f_X11_gangs_ μ v1) fun r8 μ9 => bd (f_X11_goesOnP μ9 (μ9 300 32)) fun r13 μ14 => (k112 r8 r13 μ14))) else (if 0 ≤ v5 ∧ v5 < 5 then if 0 ≤ (μ 399 v5.toNat) ∧ (μ 399 v5.toNat) < 5 then lm (up μ 321 v5.toNat (μ 320 (μ 399 v5.toNat).toNat)) fun μ20 => (f_X11_plan_150 k112 (f_X11_plan_122 k112 n) 4000 v1 v4 v5 0 μ20) else none else none)
theorem f_X11_plan_122_e (k112 : Int → Int → Mem → Option (Int × Mem)) (n : Nat) (v1 v4 v5 : Int) (μ : Mem) : f_X11_plan_122 k112 (n + 1) v1 v4 v5 μ = if (μ 300 32) ≤ v5 then (if v4 = 0 then (bd (f_X11_goesOnP μ (μ 300 32)) fun r3 μ4 => (k112 v1 r3 μ4)) else (bd (f_X11_gangs_ μ v1) fun r8 μ9 => bd (f_X11_goesOnP μ9 (μ9 300 32)) fun r13 μ14 => (k112 r8 r13 μ14))) else (if 0 ≤ v5 ∧ v5 < 5 then if 0 ≤ (μ 399 v5.toNat) ∧ (μ 399 v5.toNat) < 5 then lm (up μ 321 v5.toNat (μ 320 (μ 399 v5.toNat).toNat)) fun μ20 => (f_X11_plan_150 k112 (f_X11_plan_122 k112 n) 4000 v1 v4 v5 0 μ20) else none else none) := rfl
def f_X11_plan_112  : Nat → Int → Int → Mem → Option (Int × Mem)
  | 0, _, _, _ => none
  | n + 1, v1, v3, μ => if v3 = 0 then (if v1 = (-1) then (if nr399 μ = true then some (v1, μ) else none) else (lm (up μ 300 33 (μ 300 32)) fun μ4 => if nr399 μ4 = true then some (v1, μ4) else none)) else ((f_X11_plan_122 (f_X11_plan_112 n) 4000 v1 1 0 μ))
theorem f_X11_plan_112_e  (n : Nat) (v1 v3 : Int) (μ : Mem) : f_X11_plan_112  (n + 1) v1 v3 μ = if v3 = 0 then (if v1 = (-1) then (if nr399 μ = true then some (v1, μ) else none) else (lm (up μ 300 33 (μ 300 32)) fun μ4 => if nr399 μ4 = true then some (v1, μ4) else none)) else ((f_X11_plan_122 (f_X11_plan_112 n) 4000 v1 1 0 μ)) := rfl
def f_X11_plan_7  : Nat → Int → Mem → Option (Int × Mem)
  | 0, _, _ => none
  | n + 1, v1, μ => if (μ 300 26) ≤ v1 then (if (μ 300 32) = 0 then (lm (up μ 300 33 0) fun μ13 => if inR ((μ13 300 1) - 1) then some ((μ13 300 1) - 1, μ13) else none) else (bd (f_X11_rivers μ ) fun r3 μ4 => if nr399 μ4 = true then lm (newP μ4) fun μ9 => if (μ9 300 2) ≤ 0 then ((f_X11_plan_112 4000 (-1) 0 μ9)) else ((f_X11_plan_112 4000 (-1) 1 μ9)) else none)) else (if 0 ≤ v1 ∧ v1 < 30 then if 5 ≤ (μ 317 v1.toNat) then (if inR (v1 + 1) then (f_X11_plan_7 n (v1 + 1) μ) else none) else (if (μ 300 32) = 5 then (some ((-1), μ)) else (bd (f_X11_worker μ v1) fun r21 μ22 => if r21 = (-1) then (if 0 ≤ (μ22 300 32) ∧ (μ22 300 32) < 5 then lm (up μ22 320 (μ22 300 32).toNat v1) fun μ28 => if inR ((μ28 300 32) + 1) then lm (up μ28 300 32 ((μ28 300 32) + 1)) fun μ32 => if inR (v1 + 1) then (f_X11_plan_7 n (v1 + 1) μ32) else none else none else none) else (some ((-1), μ22)))) else none)
theorem f_X11_plan_7_e  (n : Nat) (v1 : Int) (μ : Mem) : f_X11_plan_7  (n + 1) v1 μ = if (μ 300 26) ≤ v1 then (if (μ 300 32) = 0 then (lm (up μ 300 33 0) fun μ13 => if inR ((μ13 300 1) - 1) then some ((μ13 300 1) - 1, μ13) else none) else (bd (f_X11_rivers μ ) fun r3 μ4 => if nr399 μ4 = true then lm (newP μ4) fun μ9 => if (μ9 300 2) ≤ 0 then ((f_X11_plan_112 4000 (-1) 0 μ9)) else ((f_X11_plan_112 4000 (-1) 1 μ9)) else none)) else (if 0 ≤ v1 ∧ v1 < 30 then if 5 ≤ (μ 317 v1.toNat) then (if inR (v1 + 1) then (f_X11_plan_7 n (v1 + 1) μ) else none) else (if (μ 300 32) = 5 then (some ((-1), μ)) else (bd (f_X11_worker μ v1) fun r21 μ22 => if r21 = (-1) then (if 0 ≤ (μ22 300 32) ∧ (μ22 300 32) < 5 then lm (up μ22 320 (μ22 300 32).toNat v1) fun μ28 => if inR ((μ28 300 32) + 1) then lm (up μ28 300 32 ((μ28 300 32) + 1)) fun μ32 => if inR (v1 + 1) then (f_X11_plan_7 n (v1 + 1) μ32) else none else none else none) else (some ((-1), μ22)))) else none) := rfl
def f_X11_plan (μ : Mem) : Option (Int × Mem) := lm (up μ 300 32 0) fun μ1 => (f_X11_plan_7 4000 0 μ1)
set_option maxHeartbeats 4000000 in
set_option maxRecDepth 100000 in
theorem w_X11_plan_150 {p : Program} {l : Launch} {e : Env} {s : State} {m : MethodId} {args : Array Value} {below : List Frame} {meth : Method} {c : Code} {D : va_G} {cy : Nat → ClassId} {A : Nat → Prop} {ids : List Nat} {ad : Nat → Nat} {q : Nat} {r : Int} {μ1 : Mem} (C : Cx p s m args meth c D (tyl cy) A 7 cX11_plan yX11_plan.cls (some .int)) (hCF : CF (adu ad 399 q) A s) (hid : ∀ a ∈ ids, bas a = true ∨ (100 ≤ a ∧ a < 300)) (hok1 : idsOK ids μ1) (k112 : Int → Int → Mem → Option (Int × Mem)) (hk112 : ∀ (v1 v3 : Int) (μ : Mem), inR v1 → inR v3 → k112 v1 v3 μ = some (r, μ1) → V p l e (rmn 8 1 5) s m args below meth c 1 5 (MQ below (aIN D (tyl cy) (lay cy) ids ad A r μ1) args s 1 5 A) D A (lay cy) (ids ++ [399]) (adu ad 399 q) 7 μ 112 [some (rf 300), some (nu v1), some (rf 399), some (nu v3), none, none, none] []) (k122 : Int → Int → Int → Mem → Option (Int × Mem)) (hk122 : ∀ (v1 v4 v5 : Int) (μ : Mem), inR v1 → inR v4 → inR v5 → k122 v1 v4 v5 μ = some (r, μ1) → V p l e (rmn 8 1 5) s m args below meth c 1 5 (MQ below (aIN D (tyl cy) (lay cy) ids ad A r μ1) args s 1 5 A) D A (lay cy) (ids ++ [399]) (adu ad 399 q) 7 μ 122 [some (rf 300), some (nu v1), some (rf 399), none, some (nu v4), some (nu v5), none] []) : ∀ n : Nat, ∀ (v1 v4 v5 v6 : Int) (μ : Mem), inR v1 → inR v4 → inR v5 → inR v6 → f_X11_plan_150 k112 k122 n v1 v4 v5 v6 μ = some (r, μ1) → V p l e (rmn 8 1 5) s m args below meth c 1 5 (MQ below (aIN D (tyl cy) (lay cy) ids ad A r μ1) args s 1 5 A) D A (lay cy) (ids ++ [399]) (adu ad 399 q) 7 μ 150 [some (rf 300), some (nu v1), some (rf 399), none, some (nu v4), some (nu v5), some (nu v6)] [] := by
  intro n
  induction n with
  | zero =>
    intro v1 v4 v5 v6 μ hv1 hv4 hv5 hv6 hf
    cases hf
  | succ n ih =>
    intro v1 v4 v5 v6 μ hv1 hv4 hv5 hv6 hf
    have h399 : 399 ∈ ids ++ [399] := List.mem_append_right _ (List.mem_singleton.mpr rfl)
    rw [f_X11_plan_150_e] at hf
    refine V_in (fun ho0 _ => ?_)
    refine r_iload C rfl dX11_plan_150 ?_
    refine r_iload C rfl dX11_plan_152 ?_
    refine r_icmp_ge C 186 hv6 hv5 rfl dX11_plan_154 (fun c1 => ?_) (fun c1 => ?_)
    · replace hf := if_t hf c1
      refine r_iinc C rfl (lw := [some (rf 300), some (nu v1), some (rf 399), none, some (nu v4), some (nu (v5 + 1)), some (nu v6)]) rfl (by decide) dX11_plan_186 ?_
      refine r_goto C 122 rfl dX11_plan_189 ?_
      obtain ⟨g2, hf⟩ := of_g hf
      exact V_lw (hk122 v1 v4 (v5 + 1) μ hv1 hv4 g2 hf) (And.intro rfl (And.intro rfl (And.intro rfl (And.intro rfl (And.intro rfl trivial)))))
    · replace hf := if_f hf c1
      refine r_iload C rfl dX11_plan_157 ?_
      refine r_if_eq C 177 hv4 rfl dX11_plan_159 (fun c3 => ?_) (fun c3 => ?_)
      · replace hf := if_t hf c3
        refine r_iconst C dX11_plan_177 ?_
        refine r_istore C (lw := [some (rf 300), some (nu v1), some (rf 399), none, some (nu 0), some (nu v5), some (nu v6)]) rfl (by decide) dX11_plan_178 ?_
        refine r_iinc C rfl (lw := [some (rf 300), some (nu v1), some (rf 399), none, some (nu 0), some (nu v5), some (nu (v6 + 1))]) rfl (by decide) dX11_plan_180 ?_
        refine r_goto C 150 rfl dX11_plan_183 ?_
        obtain ⟨g4, hf⟩ := of_g hf
        exact V_lw (ih v1 0 v5 (v6 + 1) μ hv1 (inR_lit rfl) hv5 g4 hf) (And.intro rfl (And.intro rfl (And.intro rfl (And.intro rfl (And.intro rfl (And.intro rfl trivial))))))
      · replace hf := if_f hf c3
        refine r_aload_n C 2 rfl rfl dX11_plan_162 ?_
        refine r_iload C rfl dX11_plan_163 ?_
        obtain ⟨g5, hf⟩ := of_g hf
        refine r_iald C 399 (by decide) rfl (fun _ => h399) 0 (cA := cy 0) (n := 5) (ly_399 cy _ _) rfl g5 (by decide) dX11_plan_165 ?_
        refine r_aload_n C 2 rfl rfl dX11_plan_166 ?_
        refine r_iload C rfl dX11_plan_167 ?_
        obtain ⟨g6, hf⟩ := of_g hf
        refine r_iald C 399 (by decide) rfl (fun _ => h399) 0 (cA := cy 0) (n := 5) (ly_399 cy _ _) rfl g6 (by decide) dX11_plan_169 ?_
        refine r_icmp_eq C 177 (ho0 _ _) (ho0 _ _) rfl dX11_plan_170 (fun c7 => ?_) (fun c7 => ?_)
        · replace hf := if_t hf c7
          refine r_iconst C dX11_plan_177 ?_
          refine r_istore C (lw := [some (rf 300), some (nu v1), some (rf 399), none, some (nu 0), some (nu v5), some (nu v6)]) rfl (by decide) dX11_plan_178 ?_
          refine r_iinc C rfl (lw := [some (rf 300), some (nu v1), some (rf 399), none, some (nu 0), some (nu v5), some (nu (v6 + 1))]) rfl (by decide) dX11_plan_180 ?_
          refine r_goto C 150 rfl dX11_plan_183 ?_
          obtain ⟨g8, hf⟩ := of_g hf
          exact V_lw (ih v1 0 v5 (v6 + 1) μ hv1 (inR_lit rfl) hv5 g8 hf) (And.intro rfl (And.intro rfl (And.intro rfl (And.intro rfl (And.intro rfl (And.intro rfl trivial))))))
        · replace hf := if_f hf c7
          refine r_iconst C dX11_plan_173 ?_
          refine r_goto C 178 rfl dX11_plan_174 ?_
          refine r_istore C (lw := [some (rf 300), some (nu v1), some (rf 399), none, some (nu 1), some (nu v5), some (nu v6)]) rfl (by decide) dX11_plan_178 ?_
          refine r_iinc C rfl (lw := [some (rf 300), some (nu v1), some (rf 399), none, some (nu 1), some (nu v5), some (nu (v6 + 1))]) rfl (by decide) dX11_plan_180 ?_
          refine r_goto C 150 rfl dX11_plan_183 ?_
          obtain ⟨g9, hf⟩ := of_g hf
          exact V_lw (ih v1 1 v5 (v6 + 1) μ hv1 (inR_lit rfl) hv5 g9 hf) (And.intro rfl (And.intro rfl (And.intro rfl (And.intro rfl (And.intro rfl (And.intro rfl trivial))))))
set_option maxHeartbeats 4000000 in
set_option maxRecDepth 100000 in
theorem w_X11_plan_122 {p : Program} {l : Launch} {e : Env} {s : State} {m : MethodId} {args : Array Value} {below : List Frame} {meth : Method} {c : Code} {D : va_G} {cy : Nat → ClassId} {A : Nat → Prop} {ids : List Nat} {ad : Nat → Nat} {q : Nat} {r : Int} {μ1 : Mem} (C : Cx p s m args meth c D (tyl cy) A 7 cX11_plan yX11_plan.cls (some .int)) (hCF : CF (adu ad 399 q) A s) (hid : ∀ a ∈ ids, bas a = true ∨ (100 ≤ a ∧ a < 300)) (hok1 : idsOK ids μ1) (k112 : Int → Int → Mem → Option (Int × Mem)) (hk112 : ∀ (v1 v3 : Int) (μ : Mem), inR v1 → inR v3 → k112 v1 v3 μ = some (r, μ1) → V p l e (rmn 8 1 5) s m args below meth c 1 5 (MQ below (aIN D (tyl cy) (lay cy) ids ad A r μ1) args s 1 5 A) D A (lay cy) (ids ++ [399]) (adu ad 399 q) 7 μ 112 [some (rf 300), some (nu v1), some (rf 399), some (nu v3), none, none, none] []) : ∀ n : Nat, ∀ (v1 v4 v5 : Int) (μ : Mem), inR v1 → inR v4 → inR v5 → f_X11_plan_122 k112 n v1 v4 v5 μ = some (r, μ1) → V p l e (rmn 8 1 5) s m args below meth c 1 5 (MQ below (aIN D (tyl cy) (lay cy) ids ad A r μ1) args s 1 5 A) D A (lay cy) (ids ++ [399]) (adu ad 399 q) 7 μ 122 [some (rf 300), some (nu v1), some (rf 399), none, some (nu v4), some (nu v5), none] [] := by
  intro n
  induction n with
  | zero =>
    intro v1 v4 v5 μ hv1 hv4 hv5 hf
    cases hf
  | succ n ih =>
    intro v1 v4 v5 μ hv1 hv4 hv5 hf
    have h399 : 399 ∈ ids ++ [399] := List.mem_append_right _ (List.mem_singleton.mpr rfl)
    rw [f_X11_plan_122_e] at hf
    refine V_in (fun ho0 _ => ?_)
    refine r_iload C rfl dX11_plan_122 ?_
    refine r_aload_n C 0 rfl rfl dX11_plan_124 ?_
    refine r_getf C 300 (by decide) rfl (fx_m rfl) (ly_300 cy _ _) rfl in_X11 32 (by decide) tw_927 (v := nu (μ 300 32)) rfl dX11_plan_125 ?_
    refine r_icmp_ge C 192 hv5 (ho0 _ _) rfl dX11_plan_128 (fun c1 => ?_) (fun c1 => ?_)
    · replace hf := if_t hf c1
      refine r_iload C rfl dX11_plan_192 ?_
      refine r_if_eq C 205 hv4 rfl dX11_plan_194 (fun c2 => ?_) (fun c2 => ?_)
      · replace hf := if_t hf c2
        refine r_iload_n C 1 rfl rfl dX11_plan_205 ?_
        refine r_istore_n C 1 (lw := [some (rf 300), some (nu v1), some (rf 399), none, some (nu v4), some (nu v5), none]) rfl rfl (by decide) dX11_plan_206 ?_
        refine r_aload_n C 0 rfl rfl dX11_plan_207 ?_
        refine r_aload_n C 2 rfl rfl dX11_plan_208 ?_
        refine r_aload_n C 0 rfl rfl dX11_plan_209 ?_
        refine r_getf C 300 (by decide) rfl (fx_m rfl) (ly_300 cy _ _) rfl in_X11 32 (by decide) tw_927 (v := nu (μ 300 32)) rfl dX11_plan_210 ?_
        obtain ⟨r3, μ4, hc5, hf⟩ := of_bd hf
        refine g_callVI C hCF (As := [rf 399, nu (μ 300 32)]) 300 (by decide) rfl (fx_m rfl) (ly_300 cy _ _) rfl (c_X11_goesOnP h399 (ho0 _ _) hc5) ⟨by decide, by decide⟩ ⟨by decide, by decide⟩ tw_1216 tw_1219 tw_10 tw_1218 ts_59 2 (by decide) rfl (Nat.le_of_ble_eq_true rfl) dX11_plan_213 (fun hr7 => ?_)
        refine V_in (fun ho6 _ => ?_)
        refine r_istore_n C 3 (lw := [some (rf 300), some (nu v1), some (rf 399), some (nu r3), some (nu v4), some (nu v5), none]) rfl rfl (by decide) dX11_plan_216 ?_
        refine r_goto C 112 rfl dX11_plan_217 ?_
        exact V_lw (hk112 v1 r3 μ4 hv1 hr7 hf) (And.intro rfl (And.intro rfl (And.intro rfl (And.intro rfl trivial))))
      · replace hf := if_f hf c2
        refine r_aload_n C 0 rfl rfl dX11_plan_197 ?_
        refine r_iload_n C 1 rfl rfl dX11_plan_198 ?_
        obtain ⟨r8, μ9, hc10, hf⟩ := of_bd hf
        refine g_callVI C hCF (As := [nu v1]) 300 (by decide) rfl (fx_m rfl) (ly_300 cy _ _) rfl (c_X11_gangs_ hv1 hc10) ⟨by decide, by decide⟩ ⟨by decide, by decide⟩ tw_1200 tw_1203 tw_10 tw_1202 ts_55 1 (by decide) rfl (Nat.le_of_ble_eq_true rfl) dX11_plan_199 (fun hr12 => ?_)
        refine V_in (fun ho11 _ => ?_)
        refine r_goto C 206 rfl dX11_plan_202 ?_
        refine r_istore_n C 1 (lw := [some (rf 300), some (nu r8), some (rf 399), none, some (nu v4), some (nu v5), none]) rfl rfl (by decide) dX11_plan_206 ?_
        refine r_aload_n C 0 rfl rfl dX11_plan_207 ?_
        refine r_aload_n C 2 rfl rfl dX11_plan_208 ?_
        refine r_aload_n C 0 rfl rfl dX11_plan_209 ?_
        refine r_getf C 300 (by decide) rfl (fx_m rfl) (ly_300 cy _ _) rfl in_X11 32 (by decide) tw_927 (v := nu (μ9 300 32)) rfl dX11_plan_210 ?_
        obtain ⟨r13, μ14, hc15, hf⟩ := of_bd hf
        refine g_callVI C hCF (As := [rf 399, nu (μ9 300 32)]) 300 (by decide) rfl (fx_m rfl) (ly_300 cy _ _) rfl (c_X11_goesOnP h399 (ho11 _ _) hc15) ⟨by decide, by decide⟩ ⟨by decide, by decide⟩ tw_1216 tw_1219 tw_10 tw_1218 ts_59 2 (by decide) rfl (Nat.le_of_ble_eq_true rfl) dX11_plan_213 (fun hr17 => ?_)
        refine V_in (fun ho16 _ => ?_)
        refine r_istore_n C 3 (lw := [some (rf 300), some (nu r8), some (rf 399), some (nu r13), some (nu v4), some (nu v5), none]) rfl rfl (by decide) dX11_plan_216 ?_
        refine r_goto C 112 rfl dX11_plan_217 ?_
        exact V_lw (hk112 r8 r13 μ14 hr12 hr17 hf) (And.intro rfl (And.intro rfl (And.intro rfl (And.intro rfl trivial))))
    · replace hf := if_f hf c1
      refine r_aload_n C 0 rfl rfl dX11_plan_131 ?_
      refine r_getf C 300 (by decide) rfl (fx_m rfl) (ly_300 cy _ _) rfl in_X11 35 (by decide) tw_930 (v := rf 321) rfl dX11_plan_132 ?_
      refine r_iload C rfl dX11_plan_135 ?_
      refine r_aload_n C 0 rfl rfl dX11_plan_137 ?_
      refine r_getf C 300 (by decide) rfl (fx_m rfl) (ly_300 cy _ _) rfl in_X11 34 (by decide) tw_929 (v := rf 320) rfl dX11_plan_138 ?_
      refine r_aload_n C 2 rfl rfl dX11_plan_141 ?_
      refine r_iload C rfl dX11_plan_142 ?_
      obtain ⟨g18, hf⟩ := of_g hf
      refine r_iald C 399 (by decide) rfl (fun _ => h399) 0 (cA := cy 0) (n := 5) (ly_399 cy _ _) rfl g18 (by decide) dX11_plan_144 ?_
      obtain ⟨g19, hf⟩ := of_g hf
      refine r_iald C 320 (by decide) rfl (fx_m rfl) 0 (cA := cy 0) (n := 5) (ly_320 cy _ _) rfl g19 (by decide) dX11_plan_145 ?_
      refine r_iast C 321 (by decide) rfl (fx_m rfl) (by decide) 0 (cA := cy 0) (n := 5) (fun f => ly_321 cy _ f) rfl g18 (by decide) (ho0 _ _) dX11_plan_146 (fun μ20 hμ22 => ?_)
      replace hf := of_lm hf hμ22
      refine V_in (fun ho21 _ => ?_)
      refine r_iconst C dX11_plan_147 ?_
      refine r_istore C (lw := [some (rf 300), some (nu v1), some (rf 399), none, some (nu v4), some (nu v5), some (nu 0)]) rfl (by decide) dX11_plan_148 ?_
      exact V_lw (w_X11_plan_150 C hCF hid hok1 k112 hk112 (f_X11_plan_122 k112 n) ih 4000 v1 v4 v5 0 μ20 hv1 hv4 hv5 (inR_lit rfl) hf) (And.intro rfl (And.intro rfl (And.intro rfl (And.intro rfl (And.intro rfl (And.intro rfl trivial))))))
set_option maxHeartbeats 4000000 in
set_option maxRecDepth 100000 in
theorem w_X11_plan_112 {p : Program} {l : Launch} {e : Env} {s : State} {m : MethodId} {args : Array Value} {below : List Frame} {meth : Method} {c : Code} {D : va_G} {cy : Nat → ClassId} {A : Nat → Prop} {ids : List Nat} {ad : Nat → Nat} {q : Nat} {r : Int} {μ1 : Mem} (C : Cx p s m args meth c D (tyl cy) A 7 cX11_plan yX11_plan.cls (some .int)) (hCF : CF (adu ad 399 q) A s) (hid : ∀ a ∈ ids, bas a = true ∨ (100 ≤ a ∧ a < 300)) (hok1 : idsOK ids μ1) : ∀ n : Nat, ∀ (v1 v3 : Int) (μ : Mem), inR v1 → inR v3 → f_X11_plan_112  n v1 v3 μ = some (r, μ1) → V p l e (rmn 8 1 5) s m args below meth c 1 5 (MQ below (aIN D (tyl cy) (lay cy) ids ad A r μ1) args s 1 5 A) D A (lay cy) (ids ++ [399]) (adu ad 399 q) 7 μ 112 [some (rf 300), some (nu v1), some (rf 399), some (nu v3), none, none, none] [] := by
  intro n
  induction n with
  | zero =>
    intro v1 v3 μ hv1 hv3 hf
    cases hf
  | succ n ih =>
    intro v1 v3 μ hv1 hv3 hf
    have h399 : 399 ∈ ids ++ [399] := List.mem_append_right _ (List.mem_singleton.mpr rfl)
    rw [f_X11_plan_112_e] at hf
    refine V_in (fun ho0 _ => ?_)
    refine r_iload_n C 3 rfl rfl dX11_plan_112 ?_
    refine r_if_eq C 220 hv3 rfl dX11_plan_113 (fun c1 => ?_) (fun c1 => ?_)
    · replace hf := if_t hf c1
      refine r_iload_n C 1 rfl rfl dX11_plan_220 ?_
      refine r_iconst C dX11_plan_221 ?_
      refine r_icmp_eq C 233 hv1 (inR_lit rfl) rfl dX11_plan_222 (fun c2 => ?_) (fun c2 => ?_)
      · replace hf := if_t hf c2
        refine r_iload_n C 1 rfl rfl dX11_plan_233 ?_
        obtain ⟨g3, hf⟩ := of_g hf
        obtain ⟨rfl, rfl⟩ := of_ret hf
        exact r_iretD C rfl hv1 hid hok1 g3 (Nat.le_refl 1) (Nat.le_refl 5) dX11_plan_234
      · replace hf := if_f hf c2
        refine r_aload_n C 0 rfl rfl dX11_plan_225 ?_
        refine r_aload_n C 0 rfl rfl dX11_plan_226 ?_
        refine r_getf C 300 (by decide) rfl (fx_m rfl) (ly_300 cy _ _) rfl in_X11 32 (by decide) tw_927 (v := nu (μ 300 32)) rfl dX11_plan_227 ?_
        refine r_putf C 300 (by decide) rfl (fx_m rfl) (by decide) (ly_300 cy _ _) 33 (ly_300 cy _ _) rfl (Nat.le_of_ble_eq_true rfl) (ho0 _ _) rfl in_X11 tyX11 tyX11_ok nmX11 (by decide) tw_928 rfl rfl dX11_plan_230 (fun μ4 hμ6 => ?_)
        replace hf := of_lm hf hμ6
        refine V_in (fun ho5 _ => ?_)
        refine r_iload_n C 1 rfl rfl dX11_plan_233 ?_
        obtain ⟨g7, hf⟩ := of_g hf
        obtain ⟨rfl, rfl⟩ := of_ret hf
        exact r_iretD C rfl hv1 hid hok1 g7 (Nat.le_refl 1) (Nat.le_refl 5) dX11_plan_234
    · replace hf := if_f hf c1
      refine r_iconst C dX11_plan_116 ?_
      refine r_istore C (lw := [some (rf 300), some (nu v1), some (rf 399), some (nu v3), some (nu 1), none, none]) rfl (by decide) dX11_plan_117 ?_
      refine r_iconst C dX11_plan_119 ?_
      refine r_istore C (lw := [some (rf 300), some (nu v1), some (rf 399), some (nu v3), some (nu 1), some (nu 0), none]) rfl (by decide) dX11_plan_120 ?_
      exact V_lw (w_X11_plan_122 C hCF hid hok1 (f_X11_plan_112 n) ih 4000 v1 1 0 μ hv1 (inR_lit rfl) (inR_lit rfl) hf) (And.intro rfl (And.intro rfl (And.intro rfl (And.intro rfl (And.intro rfl trivial)))))
set_option maxHeartbeats 4000000 in
set_option maxRecDepth 100000 in
theorem w_X11_plan_7 {p : Program} {l : Launch} {e : Env} {s : State} {m : MethodId} {args : Array Value} {below : List Frame} {meth : Method} {c : Code} {D : va_G} {cy : Nat → ClassId} {A : Nat → Prop} {ids : List Nat} {ad : Nat → Nat} {r : Int} {μ1 : Mem} (C : Cx p s m args meth c D (tyl cy) A 7 cX11_plan yX11_plan.cls (some .int)) (hCF : CF ad A s) (hid : ∀ a ∈ ids, bas a = true ∨ (100 ≤ a ∧ a < 300)) (hok1 : idsOK ids μ1) : ∀ n : Nat, ∀ (v1 : Int) (μ : Mem), inR v1 → f_X11_plan_7  n v1 μ = some (r, μ1) → V p l e (rmn 8 1 5) s m args below meth c 0 0 (MQ below (aIN D (tyl cy) (lay cy) ids ad A r μ1) args s 1 5 A) D A (lay cy) ids ad 7 μ 7 [some (rf 300), some (nu v1), none, none, none, none, none] [] := by
  intro n
  induction n with
  | zero =>
    intro v1 μ hv1 hf
    cases hf
  | succ n ih =>
    intro v1 μ hv1 hf
    rw [f_X11_plan_7_e] at hf
    refine V_in (fun ho0 _ => ?_)
    refine r_iload_n C 1 rfl rfl dX11_plan_7 ?_
    refine r_aload_n C 0 rfl rfl dX11_plan_8 ?_
    refine r_getf C 300 (by decide) rfl (fx_m rfl) (ly_300 cy _ _) rfl in_X11 26 (by decide) tw_921 (v := nu (μ 300 26)) rfl dX11_plan_9 ?_
    refine r_icmp_ge C 70 hv1 (ho0 _ _) rfl dX11_plan_12 (fun c1 => ?_) (fun c1 => ?_)
    · replace hf := if_t hf c1
      refine r_aload_n C 0 rfl rfl dX11_plan_70 ?_
      refine r_getf C 300 (by decide) rfl (fx_m rfl) (ly_300 cy _ _) rfl in_X11 32 (by decide) tw_927 (v := nu (μ 300 32)) rfl dX11_plan_71 ?_
      refine r_if_ne C 89 (ho0 _ _) rfl dX11_plan_74 (fun c2 => ?_) (fun c2 => ?_)
      · replace hf := if_f hf c2
        refine r_aload_n C 0 rfl rfl dX11_plan_89 ?_
        obtain ⟨r3, μ4, hc5, hf⟩ := of_bd hf
        refine g_callVV C hCF (As := []) 300 (by decide) rfl (fx_m rfl) (ly_300 cy _ _) rfl (c_X11_rivers hc5) ⟨by decide, by decide⟩ ⟨by decide, by decide⟩ tw_1196 tw_1199 tw_10 tw_1198 ts_54 0 (by decide) rfl (Nat.le_of_ble_eq_true rfl) dX11_plan_90 ?_
        refine V_in (fun ho6 _ => ?_)
        refine r_iconst C dX11_plan_93 ?_
        refine r_istore_n C 1 (lw := [some (rf 300), some (nu (-1)), none, none, none, none, none]) rfl rfl (by decide) dX11_plan_94 ?_
        refine r_iconst C dX11_plan_95 ?_
        obtain ⟨g8, hf⟩ := of_g hf
        refine r_newP C tw_56 hid (hn_of hid) g8 (okL_mem (lv := [some (rf 300), some (nu (-1)), none, none, none, none, none]) (And.intro (fun _ => Or.inr (by decide)) (And.intro nuP trivial))) (fun _ h => absurd h List.not_mem_nil) (by decide) (by decide) dX11_plan_96 (fun q μ9 hμ11 hcf => ?_)
        replace hf := of_lm hf hμ11
        have hCF := hcf hCF
        have h399 : 399 ∈ ids ++ [399] := List.mem_append_right _ (List.mem_singleton.mpr rfl)
        refine V_in (fun ho10 _ => ?_)
        refine r_astore_n C 2 (lw := [some (rf 300), some (nu (-1)), some (rf 399), none, none, none, none]) rfl rfl (by decide) dX11_plan_98 ?_
        refine r_aload_n C 0 rfl rfl dX11_plan_99 ?_
        refine r_getf C 300 (by decide) rfl (fx_m rfl) (ly_300 cy _ _) rfl in_X11 2 (by decide) tw_897 (v := nu (μ9 300 2)) rfl dX11_plan_100 ?_
        refine r_if_le C 110 (ho10 _ _) rfl dX11_plan_103 (fun c12 => ?_) (fun c12 => ?_)
        · replace hf := if_t hf c12
          refine r_iconst C dX11_plan_110 ?_
          refine r_istore_n C 3 (lw := [some (rf 300), some (nu (-1)), some (rf 399), some (nu 0), none, none, none]) rfl rfl (by decide) dX11_plan_111 ?_
          exact V_lw (w_X11_plan_112 C hCF hid hok1 4000 (-1) 0 μ9 (inR_lit rfl) (inR_lit rfl) hf) (And.intro rfl (And.intro rfl (And.intro rfl (And.intro rfl trivial))))
        · replace hf := if_f hf c12
          refine r_iconst C dX11_plan_106 ?_
          refine r_goto C 111 rfl dX11_plan_107 ?_
          refine r_istore_n C 3 (lw := [some (rf 300), some (nu (-1)), some (rf 399), some (nu 1), none, none, none]) rfl rfl (by decide) dX11_plan_111 ?_
          exact V_lw (w_X11_plan_112 C hCF hid hok1 4000 (-1) 1 μ9 (inR_lit rfl) (inR_lit rfl) hf) (And.intro rfl (And.intro rfl (And.intro rfl (And.intro rfl trivial))))
      · replace hf := if_t hf c2
        refine r_aload_n C 0 rfl rfl dX11_plan_77 ?_
        refine r_iconst C dX11_plan_78 ?_
        refine r_putf C 300 (by decide) rfl (fx_m rfl) (by decide) (ly_300 cy _ _) 33 (ly_300 cy _ _) rfl (Nat.le_of_ble_eq_true rfl) (inR_lit rfl) rfl in_X11 tyX11 tyX11_ok nmX11 (by decide) tw_928 rfl rfl dX11_plan_79 (fun μ13 hμ15 => ?_)
        replace hf := of_lm hf hμ15
        refine V_in (fun ho14 _ => ?_)
        refine r_aload_n C 0 rfl rfl dX11_plan_82 ?_
        refine r_getf C 300 (by decide) rfl (fx_m rfl) (ly_300 cy _ _) rfl in_X11 1 (by decide) tw_896 (v := nu (μ13 300 1)) rfl dX11_plan_83 ?_
        refine r_iconst C dX11_plan_86 ?_
        refine r_isub C dX11_plan_87 ?_
        obtain ⟨g16, hf⟩ := of_g hf
        obtain ⟨rfl, rfl⟩ := of_ret hf
        exact r_iretN C rfl g16 ⟨hok1, fun _ _ => rfl, fun _ _ => rfl⟩ (Nat.zero_le 1) (Nat.zero_le 5) dX11_plan_88
    · replace hf := if_f hf c1
      refine r_aload_n C 0 rfl rfl dX11_plan_15 ?_
      refine r_getf C 300 (by decide) rfl (fx_m rfl) (ly_300 cy _ _) rfl in_X11 29 (by decide) tw_924 (v := rf 317) rfl dX11_plan_16 ?_
      refine r_iload_n C 1 rfl rfl dX11_plan_19 ?_
      obtain ⟨g17, hf⟩ := of_g hf
      refine r_iald C 317 (by decide) rfl (fx_m rfl) 0 (cA := cy 0) (n := 30) (ly_317 cy _ _) rfl g17 (by decide) dX11_plan_20 ?_
      refine r_iconst C dX11_plan_21 ?_
      refine r_icmp_ge C 64 (ho0 _ _) (inR_lit rfl) rfl dX11_plan_22 (fun c18 => ?_) (fun c18 => ?_)
      · replace hf := if_t hf c18
        refine r_iinc C rfl (lw := [some (rf 300), some (nu (v1 + 1)), none, none, none, none, none]) rfl (by decide) dX11_plan_64 ?_
        refine r_goto C 7 rfl dX11_plan_67 ?_
        obtain ⟨g19, hf⟩ := of_g hf
        exact V_lw (ih (v1 + 1) μ g19 hf) (And.intro rfl (And.intro rfl trivial))
      · replace hf := if_f hf c18
        refine r_aload_n C 0 rfl rfl dX11_plan_25 ?_
        refine r_getf C 300 (by decide) rfl (fx_m rfl) (ly_300 cy _ _) rfl in_X11 32 (by decide) tw_927 (v := nu (μ 300 32)) rfl dX11_plan_26 ?_
        refine r_iconst C dX11_plan_29 ?_
        refine r_icmp_eq C 42 (ho0 _ _) (inR_lit rfl) rfl dX11_plan_30 (fun c20 => ?_) (fun c20 => ?_)
        · replace hf := if_t hf c20
          refine r_iconst C dX11_plan_42 ?_
          obtain ⟨rfl, rfl⟩ := of_ret hf
          exact r_iretN C rfl (inR_lit rfl) ⟨hok1, fun _ _ => rfl, fun _ _ => rfl⟩ (Nat.zero_le 1) (Nat.zero_le 5) dX11_plan_43
        · replace hf := if_f hf c20
          refine r_aload_n C 0 rfl rfl dX11_plan_33 ?_
          refine r_iload_n C 1 rfl rfl dX11_plan_34 ?_
          obtain ⟨r21, μ22, hc23, hf⟩ := of_bd hf
          refine g_callVI C hCF (As := [nu v1]) 300 (by decide) rfl (fx_m rfl) (ly_300 cy _ _) rfl (c_X11_worker hv1 hc23) ⟨by decide, by decide⟩ ⟨by decide, by decide⟩ tw_1139 tw_1142 tw_10 tw_1141 ts_46 1 (by decide) rfl (Nat.le_of_ble_eq_true rfl) dX11_plan_35 (fun hr25 => ?_)
          refine V_in (fun ho24 _ => ?_)
          refine r_iconst C dX11_plan_38 ?_
          refine r_icmp_eq C 44 hr25 (inR_lit rfl) rfl dX11_plan_39 (fun c26 => ?_) (fun c26 => ?_)
          · replace hf := if_t hf c26
            refine r_aload_n C 0 rfl rfl dX11_plan_44 ?_
            refine r_getf C 300 (by decide) rfl (fx_m rfl) (ly_300 cy _ _) rfl in_X11 34 (by decide) tw_929 (v := rf 320) rfl dX11_plan_45 ?_
            refine r_aload_n C 0 rfl rfl dX11_plan_48 ?_
            refine r_getf C 300 (by decide) rfl (fx_m rfl) (ly_300 cy _ _) rfl in_X11 32 (by decide) tw_927 (v := nu (μ22 300 32)) rfl dX11_plan_49 ?_
            refine r_iload_n C 1 rfl rfl dX11_plan_52 ?_
            obtain ⟨g27, hf⟩ := of_g hf
            refine r_iast C 320 (by decide) rfl (fx_m rfl) (by decide) 0 (cA := cy 0) (n := 5) (fun f => ly_320 cy _ f) rfl g27 (by decide) hv1 dX11_plan_53 (fun μ28 hμ30 => ?_)
            replace hf := of_lm hf hμ30
            refine V_in (fun ho29 _ => ?_)
            refine r_aload_n C 0 rfl rfl dX11_plan_54 ?_
            refine r_dup C dX11_plan_55 ?_
            refine r_getf C 300 (by decide) rfl (fx_m rfl) (ly_300 cy _ _) rfl in_X11 32 (by decide) tw_927 (v := nu (μ28 300 32)) rfl dX11_plan_56 ?_
            refine r_iconst C dX11_plan_59 ?_
            refine r_iadd C dX11_plan_60 ?_
            obtain ⟨g31, hf⟩ := of_g hf
            refine r_putf C 300 (by decide) rfl (fx_m rfl) (by decide) (ly_300 cy _ _) 32 (ly_300 cy _ _) rfl (Nat.le_of_ble_eq_true rfl) g31 rfl in_X11 tyX11 tyX11_ok nmX11 (by decide) tw_927 rfl rfl dX11_plan_61 (fun μ32 hμ34 => ?_)
            replace hf := of_lm hf hμ34
            refine V_in (fun ho33 _ => ?_)
            refine r_iinc C rfl (lw := [some (rf 300), some (nu (v1 + 1)), none, none, none, none, none]) rfl (by decide) dX11_plan_64 ?_
            refine r_goto C 7 rfl dX11_plan_67 ?_
            obtain ⟨g35, hf⟩ := of_g hf
            exact V_lw (ih (v1 + 1) μ32 g35 hf) (And.intro rfl (And.intro rfl trivial))
          · replace hf := if_f hf c26
            refine r_iconst C dX11_plan_42 ?_
            obtain ⟨rfl, rfl⟩ := of_ret hf
            exact r_iretN C rfl (inR_lit rfl) ⟨hok1, fun _ _ => rfl, fun _ _ => rfl⟩ (Nat.zero_le 1) (Nat.zero_le 5) dX11_plan_43
set_option maxHeartbeats 4000000 in
set_option maxRecDepth 100000 in
theorem c_X11_plan {l : Launch} {D : va_G} {cy : Nat → ClassId} {ids : List Nat} {ad : Nat → Nat} {μ μ1 : Mem} {r : Int} (hid : ∀ a ∈ ids, bas a = true ∨ (100 ≤ a ∧ a < 300)) (hok1 : idsOK ids μ1) (hf : f_X11_plan μ = some (r, μ1)) : KN l D (tyl cy) (lay cy) ids ad 8 1 5 yX11_plan cX11_plan 7 (some .int) [rf 300] μ r μ1 := by
  refine KN.of (by decide) (Nat.le_of_ble_eq_true rfl) ?_
  intro p e s m args below meth c A C hCF
  unfold f_X11_plan at hf
  refine V_in (fun ho0 _ => ?_)
  refine r_aload_n C 0 rfl rfl dX11_plan_0 ?_
  refine r_iconst C dX11_plan_1 ?_
  refine r_putf C 300 (by decide) rfl (fx_m rfl) (by decide) (ly_300 cy _ _) 32 (ly_300 cy _ _) rfl (Nat.le_of_ble_eq_true rfl) (inR_lit rfl) rfl in_X11 tyX11 tyX11_ok nmX11 (by decide) tw_927 rfl rfl dX11_plan_2 (fun μ1 hμ3 => ?_)
  replace hf := of_lm hf hμ3
  refine V_in (fun ho2 _ => ?_)
  refine r_iconst C dX11_plan_5 ?_
  refine r_istore_n C 1 (lw := [some (rf 300), some (nu 0), none, none, none, none, none]) rfl rfl (by decide) dX11_plan_6 ?_
  exact V_lw (w_X11_plan_7 C hCF hid hok1 4000 0 μ1 (inR_lit rfl) hf) (And.intro rfl (And.intro rfl trivial))
