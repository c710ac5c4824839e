/-- that there is a class of arrays over arrays of t, as the tables say it -/
def va_AOA (t : FieldType) (U : State) : Prop := (Cond.arrayOver (.array t)).before #[] U = true
theorem va_AOA.use {t : FieldType} {A : Array Value} {U : State} (h : va_AOA t U) : (Cond.arrayOver (.array t)).before A U = true := h
theorem va_AOA.moved {t : FieldType} {u U : State} (hvm : u.vm.Alike U.vm) (h : va_AOA t u) : va_AOA t U := by
  obtain ⟨comp, c, k, h1, h2, h3, h4, h5⟩ := arrayOverA_spec h
  obtain ⟨k', hk', he⟩ := hvm.2.2 _ _ h3
  have hi : (U.vm.classes.findIdx? fun (x : Class) => match x.kind with | .array component _ => component == comp | _ => false) = some c := by
    have e1 := va_idx_bare U.vm comp
    have e2 := va_idx_bare u.vm comp
    first | rw [← hvm.bare_eq] at e1 | rw [hvm.bare_eq] at e1
    exact e1.symm.trans (e2.trans h2)
  have hkind : k'.kind = .array comp (.array t) := by rw [he]; exact h4
  have f1 : U.vm.findClass (FieldType.array t).toString = some comp := by rw [hvm.findClass]; exact h1
  have f2 : U.vm.findClass ("[" ++ (FieldType.array t).toString) = some c := by rw [hvm.findClass]; exact h5
  unfold va_AOA Cond.before Cond.holds
  simp only [Cond.value]
  rw [f1, Option.bind_some]
  refine (congrArg (fun o : Option Nat => (o.bind (fun c => (U.vm.classes[c]?).map fun (k : Class) => match k.kind with | .array _ ty => decide (ty = FieldType.array t) && decide (U.vm.findClass ("[" ++ (FieldType.array t).toString) = some c) | _ => false) == some true)) hi).trans ?_
  simp [hk', hkind, f2]
/-! ===== BEGIN new T[n][m]: the outer array a place, the inner ones among the pooled ===== -/
/-- f, but v at every address of l -/
def vr_up {α : Type} (f : Nat → α) (l : List Nat) (v : α) : Nat → α := fun a => if a ∈ l then v else f a
theorem vr_up_in {α : Type} {f : Nat → α} {l : List Nat} {v : α} {a : Nat} (h : a ∈ l) : vr_up f l v a = v := if_pos h
theorem vr_up_ne {α : Type} {f : Nat → α} {l : List Nat} {v : α} {a : Nat} (h : a ∉ l) : vr_up f l v a = f a := if_neg h
theorem vr_rows {L l : List Nat} {f : Nat → va_E} {e : va_E} (h : ∀ a, a ∈ l → a ∉ L) : va_pl L f ++ l.map (fun a => (a, e)) = va_pl (L ++ l) (vr_up f l e) := by
  unfold va_pl
  rw [List.map_append]
  congr 1
  · apply List.map_congr_left
    intro a ha
    rw [vr_up_ne (fun q => h a q ha)]
  · apply List.map_congr_left
    intro a ha
    rw [vr_up_in ha]
theorem vr_lay {X rows : va_W} {x : Nat × va_E} {pl : va_W} {D : va_G} {cl : List vw_C} {H : Heap} (hP : va_P D cl (((X ++ pl) ++ [x]) ++ rows) H) : va_P D cl ((X ++ [x]) ++ (pl ++ rows)) H := by
  rw [List.append_assoc (X ++ pl)] at hP
  have h := va_P.swap hP
  rw [← List.append_assoc X] at h
  have h2 := va_P.swap h
  rw [List.append_assoc (X ++ [x])] at h2
  exact h2
theorem vr_layD {X rows : va_W} {x : Nat × va_E} {pl : va_W} {A : Nat → Prop} (hD : va_D A (((X ++ pl) ++ [x]) ++ rows)) : va_D A ((X ++ [x]) ++ (pl ++ rows)) := by
  rw [List.append_assoc (X ++ pl)] at hD
  have h := va_D.swap hD
  rw [← List.append_assoc X] at h
  have h2 := va_D.swap h
  rw [List.append_assoc (X ++ [x])] at h2
  exact h2
theorem vr_outer (c : ClassId) (N h0 : Nat) : ∀ i : Nat, Jvm.Free.Multi.outerC c N h0 i = arrV c N (fun j => va_rf (if j < i then some (h0 + 1 + j) else none))
  | 0 => by
    show ({ cls := c, slots := Array.replicate N .null, vm := .none } : Cell) = _
    rw [arrV_new]
    refine congrArg (arrV c N) (funext fun j => ?_)
    simp [va_rf]
  | i + 1 => by
    show (Jvm.Free.Multi.outerC c N h0 i).setSlot i (.ref (h0 + 1 + i)) = _
    rw [vr_outer c N h0 i, arrV_store]
    refine congrArg (arrV c N) (funext fun j => ?_)
    by_cases e : j = i
    · subst e
      simp [updV, va_rf]
    · by_cases h : j < i
      · simp [updV, e, h, Nat.lt_succ_of_lt h]
      · simp [updV, e, h, show ¬ j < i + 1 by omega]
section VGM
variable {p : Program} {l : Launch} {e : Env} {R : Room} {s : State} {m : MethodId} {args : Array Value} {below : List Frame} {meth : Method} {c : Code} {H : Heap} {locs : List Loc} {cells slots : Nat} {Q : State → Prop}
variable {cc : ByteArray} {pc : Nat} {ls : Array Slot} {rest : List Value} {D : va_G} {cl : List vw_C} {A : Nat → Prop} {a : Nat} {tys : List (ClassId × FieldType)} {ws : va_W} {H0 : Heap}
theorem va_mna {X : va_W} {L : List Nat} {f : Nat → va_E} {cc : ByteArray} (hexec : p.tables.exec = Jvm.exec) (hb : c.code = cc) {own : String} {index : Nat} {ty : FieldType} {cy : ClassId} (hown : s.vm.findClass own = some m.cls) (hclink : (Cond.classLink own index ("[" ++ (FieldType.array ty).toString)).before args s = true) (hover : va_AOA ty s) (harr : (Cond.arrayClass ty).before args s = true) (hcy : s.vm.findClass (FieldType.array ty).toString = some cy)
    (hK : va_K D cl tys s) (hP : va_P D cl (X ++ va_pl L f) H) (hD : va_D A (X ++ va_pl L f)) (hS : va_S A H0 H locs) (hA : ∀ q, H0.size ≤ q → A q) {n k : Int32} {N' K' : Nat} {z : vp_A} (hn : ¬ n < 0) (hk : ¬ k < 0) (hN : n.toNatClampNeg = N') (hM : k.toNatClampNeg = K')
    (hb1 : N' * 4 ≤ 536870912) (hb2 : K' * componentBytes ty ≤ 536870912) (hb3 : K' ≤ 536870912) (hdf : fits ty (defaultValue ty) = true) (hdd : (defaultValue ty).isDefault = true) (hcells : cells + (1 + N') ≤ R.cells) (hslots : slots + (N' + N' * K') ≤ R.slots) (hz : ∀ c : ClassId, Jvm.Free.Multi.innerC c K' (defaultValue ty) = vp_cell c z) (hdg : decode cc pc = .ok (.multianewarray index 2, 4))
    (kk : ∀ (q : Nat) (r : Nat → Nat) (cA : ClassId) (H1 : Heap), (∀ i j : Nat, i < N' → j < N' → r i = r j → i = j) → (∀ i : Nat, i < N' → r i ∉ L) → va_K D cl (tys ++ [(cA, .array ty)]) s →
      va_P D cl ((X ++ [(q, .inl (cA, N', .inr (.inr (.inr (.inr (fun i => if i < N' then some (r i) else none))))))]) ++ va_pl (L ++ (List.range N').map r) (vr_up f ((List.range N').map r) (.inl (cy, z)))) H1 → va_D A ((X ++ [(q, .inl (cA, N', .inr (.inr (.inr (.inr (fun i => if i < N' then some (r i) else none))))))]) ++ va_pl (L ++ (List.range N').map r) (vr_up f ((List.range N').map r) (.inl (cy, z)))) → va_S A H0 H1 locs →
      W p l e R s m args below meth c H1 locs (cells + 1 + N') (slots + N' + N' * K') Q (F0 m (pc + 4) ls (.ref q :: rest))) : W p l e R s m args below meth c H locs cells slots Q (F0 m pc ls (.int k :: .int n :: rest)) := by
  subst hN
  subst hM
  intro T hT Xs
  obtain ⟨vm₁, cA, comp, -, fA, fC, hO, -, X', step⟩ := Xs.multianewarray2F hexec hown hclink (va_AOA.use hover) harr (g := F0 m pc ls (.int k :: .int n :: rest)) rfl (by rw [hb]; exact hdg) rfl hn hk hb1 hb2 hb3 hdf hdd hcells hslots
  have ec : some cy = some comp := hcy.symm.trans fC
  cases ec
  generalize hF : Jvm.Free.Multi.fill (T.setVm vm₁) cA cy n.toNatClampNeg k.toNatClampNeg (defaultValue ty) n.toNatClampNeg = F at X' step
  have hTh : (T.setVm vm₁).heap = H := hT
  obtain ⟨f1, f2, -, -⟩ := Jvm.Free.Multi.fill_facts (T.setVm vm₁) cA cy n.toNatClampNeg k.toNatClampNeg (defaultValue ty) n.toNatClampNeg
  rw [hF, hTh] at f1 f2
  have hold : ∀ x : Nat, x < H.size → F.heap[x]? = H[x]? := fun x hx => by
    have := Jvm.Free.Multi.fill_old (T.setVm vm₁) cA cy n.toNatClampNeg k.toNatClampNeg (defaultValue ty) (a := x) (by rw [hTh]; exact hx) n.toNatClampNeg
    rw [hF, hTh] at this
    exact this
  have hrow : ∀ j : Nat, j < n.toNatClampNeg → F.heap[H.size + 1 + j]? = some (vp_cell cy z) := fun j hj => by
    have := Jvm.Free.Multi.fill_inner (T.setVm vm₁) cA cy n.toNatClampNeg k.toNatClampNeg (defaultValue ty) n.toNatClampNeg j hj
    rw [hF, hTh, hz] at this
    exact this
  have hout : Jvm.Free.Multi.outerC cA n.toNatClampNeg H.size n.toNatClampNeg = vp_cell cA (n.toNatClampNeg, .inr (.inr (.inr (.inr (fun i => if i < n.toNatClampNeg then some (H.size + 1 + i) else none))))) := by
    rw [vp_cell_q]
    exact vr_outer cA n.toNatClampNeg H.size n.toNatClampNeg
  rw [hout] at f2
  have hlt : ∀ a, a ∈ L → a < H.size := fun a ha => by
    obtain ⟨k9, hk9⟩ := va_pl_get (X := X) (f := f) ha
    exact (hP k9 _ hk9).lt
  have hnl : ∀ i : Nat, i < n.toNatClampNeg → H.size + 1 + i ∉ L := fun i _ h => by
    have := hlt _ h
    omega
  have hnm : ∀ a, a ∈ (List.range n.toNatClampNeg).map (fun i => H.size + 1 + i) → a ∉ L := fun a ha h => by
    obtain ⟨i, -, rfl⟩ := List.mem_map.mp ha
    have := hlt _ h
    omega
  have hP0 : va_P D cl (X ++ va_pl L f) F.heap := hP.kept (fun k9 x hx => hold x.1 ((hP k9 x hx).lt))
  have hP1 : va_P D cl ((X ++ va_pl L f) ++ [(H.size, .inl (cA, n.toNatClampNeg, .inr (.inr (.inr (.inr (fun i => if i < n.toNatClampNeg then some (H.size + 1 + i) else none))))))]) F.heap := hP0.app (fun k9 x hx => by
    have h0 : k9 < 1 := (List.getElem?_eq_some_iff.mp hx).1
    rw [show k9 = 0 by omega] at hx
    cases hx
    exact f2)
  have hP2 : va_P D cl (((X ++ va_pl L f) ++ [(H.size, .inl (cA, n.toNatClampNeg, .inr (.inr (.inr (.inr (fun i => if i < n.toNatClampNeg then some (H.size + 1 + i) else none))))))]) ++ ((List.range n.toNatClampNeg).map (fun i => H.size + 1 + i)).map (fun a => (a, .inl (cy, z)))) F.heap := hP1.app (fun k9 x hx => by
    obtain ⟨a, ha, rfl⟩ := List.mem_map.mp (List.mem_of_getElem? hx)
    obtain ⟨i, hi, rfl⟩ := List.mem_map.mp ha
    exact hrow i (List.mem_range.mp hi))
  have hD2 : va_D A (((X ++ va_pl L f) ++ [(H.size, .inl (cA, n.toNatClampNeg, .inr (.inr (.inr (.inr (fun i => if i < n.toNatClampNeg then some (H.size + 1 + i) else none))))))]) ++ ((List.range n.toNatClampNeg).map (fun i => H.size + 1 + i)).map (fun a => (a, .inl (cy, z)))) := by
    have hD1 := hD.push (e := .inl (cA, n.toNatClampNeg, .inr (.inr (.inr (.inr (fun i => if i < n.toNatClampNeg then some (H.size + 1 + i) else none)))))) hP rfl (hA _ hS.1)
    generalize hW1 : (X ++ va_pl L f) ++ [(H.size, .inl (cA, n.toNatClampNeg, .inr (.inr (.inr (.inr (fun i => if i < n.toNatClampNeg then some (H.size + 1 + i) else none))))))] = W1 at hD1 hP1 ⊢
    have hle : ∀ (k9 : Nat) (x : Nat × va_E), W1[k9]? = some x → x.1 ≤ H.size := fun k9 x hx => by
      rw [← hW1] at hx
      by_cases hl : k9 < (X ++ va_pl L f).length
      · rw [List.getElem?_append_left hl] at hx
        exact Nat.le_of_lt ((hP k9 x hx).lt)
      · rw [List.getElem?_append_right (by omega)] at hx
        have h0 : k9 - (X ++ va_pl L f).length < 1 := (List.getElem?_eq_some_iff.mp hx).1
        rw [show k9 - (X ++ va_pl L f).length = 0 by omega] at hx
        cases hx
        exact Nat.le_refl _
    have hr : ∀ (k9 : Nat) (x : Nat × va_E), (((List.range n.toNatClampNeg).map (fun i => H.size + 1 + i)).map (fun a => ((a, .inl (cy, z)) : Nat × va_E)))[k9]? = some x → x.1 = H.size + 1 + k9 := fun k9 x hx => by
      rw [List.getElem?_map, List.getElem?_map] at hx
      by_cases h9 : k9 < n.toNatClampNeg
      · rw [List.getElem?_range h9] at hx
        cases hx
        rfl
      · have hn0 : (List.range n.toNatClampNeg)[k9]? = none := List.getElem?_eq_none (by rw [List.length_range]; omega)
        rw [hn0] at hx
        cases hx
    refine ⟨fun i j x y hi hj hxy => ?_, fun k9 x hx => ?_⟩
    · by_cases h1 : i < W1.length <;> by_cases h2 : j < W1.length
      · rw [List.getElem?_append_left h1] at hi
        rw [List.getElem?_append_left h2] at hj
        exact hD1.1 i j x y hi hj hxy
      · rw [List.getElem?_append_left h1] at hi
        rw [List.getElem?_append_right (by omega)] at hj
        have := hle _ _ hi
        have := hr _ _ hj
        omega
      · rw [List.getElem?_append_right (by omega)] at hi
        rw [List.getElem?_append_left h2] at hj
        have := hle _ _ hj
        have := hr _ _ hi
        omega
      · rw [List.getElem?_append_right (by omega)] at hi hj
        have := hr _ _ hi
        have := hr _ _ hj
        omega
    · by_cases h1 : k9 < W1.length
      · rw [List.getElem?_append_left h1] at hx
        exact hD1.2 k9 x hx
      · rw [List.getElem?_append_right (by omega)] at hx
        have := hr _ _ hx
        exact hA _ (by have := hS.1; omega)
  have hAr : ArrOfT s cA (.array ty) := fun N9 z9 => by
    obtain ⟨-, k9, hk9, cm9, hkk9⟩ := (hO 0 0 0).1
    exact ⟨(fun q hq => by cases hq), k9, hk9, cm9, hkk9⟩
  have hK2 : va_K D cl (tys ++ [(cA, .array ty)]) s := ⟨hK.1, fun k9 x hx => by
    by_cases hl : k9 < tys.length
    · rw [List.getElem?_append_left hl] at hx
      exact hK.2 k9 x hx
    · rw [List.getElem?_append_right (by omega)] at hx
      have h0 : k9 - tys.length < 1 := (List.getElem?_eq_some_iff.mp hx).1
      rw [show k9 - tys.length = 0 by omega] at hx
      cases hx
      exact ⟨hAr, fA⟩⟩
  obtain ⟨t, a1, b1⟩ := kk H.size (fun i => H.size + 1 + i) cA F.heap (fun i j _ _ h => by have h9 : H.size + 1 + i = H.size + 1 + j := h; omega) hnl hK2 (by rw [← vr_rows hnm]; exact vr_lay hP2) (by rw [← vr_rows hnm]; exact vr_layD hD2) ⟨by rw [f1]; have := hS.1; omega, fun x h1 h2 => (hold x (Nat.lt_of_lt_of_le h1 hS.1)).trans (hS.2.1 x h1 h2), hS.2.2⟩ F rfl X'
  refine ⟨t, step t ?_, b1⟩
  have e : T.heap.size = H.size := by rw [hT]
  rw [e]
  exact a1
end VGM
/-! ===== END ===== -/
/-! LAYOUT while things are made: references are read from the memory -/
def layDA (cy : Nat → ClassId) (ad : Nat → Nat) (o : Nat) (f : Nat → Int) : va_E := if o.blt 25 = true then (if o.blt 12 = true then (if o.blt 6 = true then (if o.blt 3 = true then (if o.blt 1 = true then (ceO ad 10 [rf (f 0), rf (f 1), rf (f 2), rf (f 3), rf (f 4), rf (f 5), rf (f 6), rf (f 7)]) else (if o.blt 2 = true then (ceO ad 2 [rf (f 0), rf (f 1), rf (f 2), nu (f 3), rf (f 4), rf (f 5), nu (f 6)]) else (ceO ad 5 [rf (f 0), rf (f 1), nu (f 2), nu (f 3)]))) else (if o.blt 4 = true then (ceO ad 9 [rf (f 0), nu (f 1)]) else (if o.blt 5 = true then (ceO ad 6 [rf (f 0)]) else (ceO ad 7 [rf (f 0), rf (f 1), nu (f 2), nu (f 3), nu (f 4), nu (f 5)])))) else (if o.blt 9 = true then (if o.blt 7 = true then (ceO ad 3 [rf (f 0), rf (f 1), rf (f 2), rf (f 3), rf (f 4), nu (f 5), nu (f 6), nu (f 7), nu (f 8), nu (f 9), nu (f 10)]) else (if o.blt 8 = true then (ceO ad 1 [rf (f 0), rf (f 1), rf (f 2), rf (f 3), rf (f 4), nu (f 5), rf (f 6), rf (f 7), rf (f 8), rf (f 9), rf (f 10), rf (f 11), rf (f 12), rf (f 13), nu (f 14), nu (f 15), rf (f 16), nu (f 17)]) else (ceO ad 8 [rf (f 0), rf (f 1), rf (f 2), rf (f 3), rf (f 4), nu (f 5), nu (f 6), nu (f 7), rf (f 8), rf (f 9), nu (f 10), rf (f 11), rf (f 12)]))) else (if o.blt 10 = true then (ceN (cy 0) 40 f) else (if o.blt 11 = true then (ceN (cy 0) 40 f) else (ceN (cy 0) 40 f))))) else (if o.blt 18 = true then (if o.blt 15 = true then (if o.blt 13 = true then (ceN (cy 0) 40 f) else (if o.blt 14 = true then (ceN (cy 0) 40 f) else (ceN (cy 0) 40 f))) else (if o.blt 16 = true then (ceN (cy 0) 40 f) else (if o.blt 17 = true then (ceN (cy 1) 200 f) else (ceN (cy 0) 9 f)))) else (if o.blt 21 = true then (if o.blt 19 = true then (ceN (cy 0) 9 f) else (if o.blt 20 = true then (ceR ad (cy 3) 6 f) else (ceR ad (cy 4) 30 f))) else (if o.blt 23 = true then (if o.blt 22 = true then (ceR ad (cy 4) 5 f) else (ceN (cy 0) 5 f)) else (if o.blt 24 = true then (ceR ad (cy 5) 5 f) else (ceN (cy 0) 5 f)))))) else (if o.blt 37 = true then (if o.blt 31 = true then (if o.blt 28 = true then (if o.blt 26 = true then (ceN (cy 0) 5 f) else (if o.blt 27 = true then (ceN (cy 0) 5 f) else (ceN (cy 0) 5 f))) else (if o.blt 29 = true then (ceN (cy 0) 5 f) else (if o.blt 30 = true then (ceN (cy 0) 5 f) else (ceN (cy 0) 6 f)))) else (if o.blt 34 = true then (if o.blt 32 = true then (ceR ad (cy 5) 5 f) else (if o.blt 33 = true then (ceN (cy 0) 20 f) else (ceN (cy 0) 20 f))) else (if o.blt 35 = true then (ceN (cy 0) 20 f) else (if o.blt 36 = true then (ceN (cy 0) 20 f) else (ceN (cy 0) 40 f))))) else (if o.blt 43 = true then (if o.blt 40 = true then (if o.blt 38 = true then (ceN (cy 0) 40 f) else (if o.blt 39 = true then (ceN (cy 0) 20 f) else (ceN (cy 0) 20 f))) else (if o.blt 41 = true then (ceN (cy 0) 6 f) else (if o.blt 42 = true then (ceN (cy 0) 6 f) else (ceN (cy 0) 6 f)))) else (if o.blt 46 = true then (if o.blt 44 = true then (ceN (cy 0) 6 f) else (if o.blt 45 = true then (ceN (cy 0) 6 f) else (ceN (cy 0) 4 f))) else (if o.blt 48 = true then (if o.blt 47 = true then (ceN (cy 0) 4 f) else (ceN (cy 0) 4 f)) else (if o.blt 49 = true then (ceN (cy 0) 4 f) else (ceN (cy 0) 4 f))))))
def layDM (cy : Nat → ClassId) (ad : Nat → Nat) (o : Nat) (f : Nat → Int) : va_E := if o.blt 338 = true then (if o.blt 319 = true then (if o.blt 309 = true then (if o.blt 304 = true then (if o.blt 302 = true then (if o.blt 301 = true then (ceO ad 11 [nu (f 0), nu (f 1), nu (f 2), nu (f 3), nu (f 4), rf (f 5), rf (f 6), rf (f 7), rf (f 8), rf (f 9), rf (f 10), rf (f 11), rf (f 12), rf (f 13), rf (f 14), nu (f 15), nu (f 16), nu (f 17), rf (f 18), nu (f 19), nu (f 20), nu (f 21), nu (f 22), rf (f 23), rf (f 24), rf (f 25), nu (f 26), rf (f 27), rf (f 28), rf (f 29), rf (f 30), rf (f 31), nu (f 32), nu (f 33), rf (f 34), rf (f 35), rf (f 36), rf (f 37), rf (f 38), rf (f 39), rf (f 40), rf (f 41), rf (f 42), rf (f 43), rf (f 44), nu (f 45), rf (f 46), rf (f 47), rf (f 48), rf (f 49), rf (f 50), nu (f 51), rf (f 52), rf (f 53)]) else (ceN (cy 0) 6 f)) else (if o.blt 303 = true then (ceN (cy 0) 6 f) else (ceN (cy 0) 6 f))) else (if o.blt 306 = true then (if o.blt 305 = true then (ceN (cy 0) 6 f) else (ceN (cy 0) 6 f)) else (if o.blt 307 = true then (ceN (cy 0) 40 f) else (if o.blt 308 = true then (ceN (cy 0) 40 f) else (ceN (cy 0) 40 f))))) else (if o.blt 314 = true then (if o.blt 311 = true then (if o.blt 310 = true then (ceN (cy 0) 40 f) else (ceN (cy 0) 40 f)) else (if o.blt 312 = true then (ceN (cy 1) 200 f) else (if o.blt 313 = true then (ceN (cy 0) 9 f) else (ceN (cy 0) 9 f)))) else (if o.blt 316 = true then (if o.blt 315 = true then (ceN (cy 2) 9 f) else (ceN (cy 0) 30 f)) else (if o.blt 317 = true then (ceN (cy 0) 30 f) else (if o.blt 318 = true then (ceN (cy 0) 30 f) else (ceN (cy 0) 30 f)))))) else (if o.blt 328 = true then (if o.blt 323 = true then (if o.blt 321 = true then (if o.blt 320 = true then (ceN (cy 0) 30 f) else (ceN (cy 0) 5 f)) else (if o.blt 322 = true then (ceN (cy 0) 5 f) else (ceN (cy 0) 5 f))) else (if o.blt 325 = true then (if o.blt 324 = true then (ceN (cy 0) 5 f) else (ceN (cy 0) 5 f)) else (if o.blt 326 = true then (ceN (cy 0) 5 f) else (if o.blt 327 = true then (ceN (cy 0) 5 f) else (ceN (cy 0) 5 f))))) else (if o.blt 333 = true then (if o.blt 330 = true then (if o.blt 329 = true then (ceN (cy 0) 5 f) else (ceN (cy 0) 6 f)) else (if o.blt 331 = true then (ceN (cy 0) 3002 f) else (if o.blt 332 = true then (ceN (cy 0) 20 f) else (ceN (cy 0) 20 f)))) else (if o.blt 335 = true then (if o.blt 334 = true then (ceN (cy 0) 20 f) else (ceN (cy 0) 20 f)) else (if o.blt 336 = true then (ceN (cy 2) 20 f) else (if o.blt 337 = true then (ceN (cy 0) 40 f) else (ceR ad (cy 5) 40 f))))))) else ceN (cy 0) 40 f
def layD (cy : Nat → ClassId) : Lay := fun ad o f => if o.blt 100 = true then layDA cy ad o f else layDM cy ad o f
theorem lyD_0 (cy : Nat → ClassId) (ad : Nat → Nat) (f : Nat → Int) : layD cy ad 0 f = ceO ad 10 [rf (f 0), rf (f 1), rf (f 2), rf (f 3), rf (f 4), rf (f 5), rf (f 6), rf (f 7)] := rfl
theorem lyD_1 (cy : Nat → ClassId) (ad : Nat → Nat) (f : Nat → Int) : layD cy ad 1 f = ceO ad 2 [rf (f 0), rf (f 1), rf (f 2), nu (f 3), rf (f 4), rf (f 5), nu (f 6)] := rfl
theorem lyD_2 (cy : Nat → ClassId) (ad : Nat → Nat) (f : Nat → Int) : layD cy ad 2 f = ceO ad 5 [rf (f 0), rf (f 1), nu (f 2), nu (f 3)] := rfl
theorem lyD_3 (cy : Nat → ClassId) (ad : Nat → Nat) (f : Nat → Int) : layD cy ad 3 f = ceO ad 9 [rf (f 0), nu (f 1)] := rfl
theorem lyD_4 (cy : Nat → ClassId) (ad : Nat → Nat) (f : Nat → Int) : layD cy ad 4 f = ceO ad 6 [rf (f 0)] := rfl
theorem lyD_5 (cy : Nat → ClassId) (ad : Nat → Nat) (f : Nat → Int) : layD cy ad 5 f = ceO ad 7 [rf (f 0), rf (f 1), nu (f 2), nu (f 3), nu (f 4), nu (f 5)] := rfl
theorem lyD_6 (cy : Nat → ClassId) (ad : Nat → Nat) (f : Nat → Int) : layD cy ad 6 f = ceO ad 3 [rf (f 0), rf (f 1), rf (f 2), rf (f 3), rf (f 4), nu (f 5), nu (f 6), nu (f 7), nu (f 8), nu (f 9), nu (f 10)] := rfl
theorem lyD_7 (cy : Nat → ClassId) (ad : Nat → Nat) (f : Nat → Int) : layD cy ad 7 f = ceO ad 1 [rf (f 0), rf (f 1), rf (f 2), rf (f 3), rf (f 4), nu (f 5), rf (f 6), rf (f 7), rf (f 8), rf (f 9), rf (f 10), rf (f 11), rf (f 12), rf (f 13), nu (f 14), nu (f 15), rf (f 16), nu (f 17)] := rfl
theorem lyD_8 (cy : Nat → ClassId) (ad : Nat → Nat) (f : Nat → Int) : layD cy ad 8 f = ceO ad 8 [rf (f 0), rf (f 1), rf (f 2), rf (f 3), rf (f 4), nu (f 5), nu (f 6), nu (f 7), rf (f 8), rf (f 9), nu (f 10), rf (f 11), rf (f 12)] := rfl
theorem lyD_9 (cy : Nat → ClassId) (ad : Nat → Nat) (f : Nat → Int) : layD cy ad 9 f = ceN (cy 0) 40 f := rfl
theorem lyD_10 (cy : Nat → ClassId) (ad : Nat → Nat) (f : Nat → Int) : layD cy ad 10 f = ceN (cy 0) 40 f := rfl
theorem lyD_11 (cy : Nat → ClassId) (ad : Nat → Nat) (f : Nat → Int) : layD cy ad 11 f = ceN (cy 0) 40 f := rfl
theorem lyD_12 (cy : Nat → ClassId) (ad : Nat → Nat) (f : Nat → Int) : layD cy ad 12 f = ceN (cy 0) 40 f := rfl
theorem lyD_13 (cy : Nat → ClassId) (ad : Nat → Nat) (f : Nat → Int) : layD cy ad 13 f = ceN (cy 0) 40 f := rfl
theorem lyD_14 (cy : Nat → ClassId) (ad : Nat → Nat) (f : Nat → Int) : layD cy ad 14 f = ceN (cy 0) 40 f := rfl
theorem lyD_15 (cy : Nat → ClassId) (ad : Nat → Nat) (f : Nat → Int) : layD cy ad 15 f = ceN (cy 0) 40 f := rfl
theorem lyD_16 (cy : Nat → ClassId) (ad : Nat → Nat) (f : Nat → Int) : layD cy ad 16 f = ceN (cy 1) 200 f := rfl
theorem lyD_17 (cy : Nat → ClassId) (ad : Nat → Nat) (f : Nat → Int) : layD cy ad 17 f = ceN (cy 0) 9 f := rfl
theorem lyD_18 (cy : Nat → ClassId) (ad : Nat → Nat) (f : Nat → Int) : layD cy ad 18 f = ceN (cy 0) 9 f := rfl
theorem lyD_19 (cy : Nat → ClassId) (ad : Nat → Nat) (f : Nat → Int) : layD cy ad 19 f = ceR ad (cy 3) 6 f := rfl
theorem lyD_20 (cy : Nat → ClassId) (ad : Nat → Nat) (f : Nat → Int) : layD cy ad 20 f = ceR ad (cy 4) 30 f := rfl
theorem lyD_21 (cy : Nat → ClassId) (ad : Nat → Nat) (f : Nat → Int) : layD cy ad 21 f = ceR ad (cy 4) 5 f := rfl
theorem lyD_22 (cy : Nat → ClassId) (ad : Nat → Nat) (f : Nat → Int) : layD cy ad 22 f = ceN (cy 0) 5 f := rfl
theorem lyD_23 (cy : Nat → ClassId) (ad : Nat → Nat) (f : Nat → Int) : layD cy ad 23 f = ceR ad (cy 5) 5 f := rfl
theorem lyD_24 (cy : Nat → ClassId) (ad : Nat → Nat) (f : Nat → Int) : layD cy ad 24 f = ceN (cy 0) 5 f := rfl
theorem lyD_25 (cy : Nat → ClassId) (ad : Nat → Nat) (f : Nat → Int) : layD cy ad 25 f = ceN (cy 0) 5 f := rfl
theorem lyD_26 (cy : Nat → ClassId) (ad : Nat → Nat) (f : Nat → Int) : layD cy ad 26 f = ceN (cy 0) 5 f := rfl
theorem lyD_27 (cy : Nat → ClassId) (ad : Nat → Nat) (f : Nat → Int) : layD cy ad 27 f = ceN (cy 0) 5 f := rfl
theorem lyD_28 (cy : Nat → ClassId) (ad : Nat → Nat) (f : Nat → Int) : layD cy ad 28 f = ceN (cy 0) 5 f := rfl
theorem lyD_29 (cy : Nat → ClassId) (ad : Nat → Nat) (f : Nat → Int) : layD cy ad 29 f = ceN (cy 0) 5 f := rfl
theorem lyD_30 (cy : Nat → ClassId) (ad : Nat → Nat) (f : Nat → Int) : layD cy ad 30 f = ceN (cy 0) 6 f := rfl
theorem lyD_31 (cy : Nat → ClassId) (ad : Nat → Nat) (f : Nat → Int) : layD cy ad 31 f = ceR ad (cy 5) 5 f := rfl
theorem lyD_32 (cy : Nat → ClassId) (ad : Nat → Nat) (f : Nat → Int) : layD cy ad 32 f = ceN (cy 0) 20 f := rfl
theorem lyD_33 (cy : Nat → ClassId) (ad : Nat → Nat) (f : Nat → Int) : layD cy ad 33 f = ceN (cy 0) 20 f := rfl
theorem lyD_34 (cy : Nat → ClassId) (ad : Nat → Nat) (f : Nat → Int) : layD cy ad 34 f = ceN (cy 0) 20 f := rfl
theorem lyD_35 (cy : Nat → ClassId) (ad : Nat → Nat) (f : Nat → Int) : layD cy ad 35 f = ceN (cy 0) 20 f := rfl
theorem lyD_36 (cy : Nat → ClassId) (ad : Nat → Nat) (f : Nat → Int) : layD cy ad 36 f = ceN (cy 0) 40 f := rfl
theorem lyD_37 (cy : Nat → ClassId) (ad : Nat → Nat) (f : Nat → Int) : layD cy ad 37 f = ceN (cy 0) 40 f := rfl
theorem lyD_38 (cy : Nat → ClassId) (ad : Nat → Nat) (f : Nat → Int) : layD cy ad 38 f = ceN (cy 0) 20 f := rfl
theorem lyD_39 (cy : Nat → ClassId) (ad : Nat → Nat) (f : Nat → Int) : layD cy ad 39 f = ceN (cy 0) 20 f := rfl
theorem lyD_40 (cy : Nat → ClassId) (ad : Nat → Nat) (f : Nat → Int) : layD cy ad 40 f = ceN (cy 0) 6 f := rfl
theorem lyD_41 (cy : Nat → ClassId) (ad : Nat → Nat) (f : Nat → Int) : layD cy ad 41 f = ceN (cy 0) 6 f := rfl
theorem lyD_42 (cy : Nat → ClassId) (ad : Nat → Nat) (f : Nat → Int) : layD cy ad 42 f = ceN (cy 0) 6 f := rfl
theorem lyD_43 (cy : Nat → ClassId) (ad : Nat → Nat) (f : Nat → Int) : layD cy ad 43 f = ceN (cy 0) 6 f := rfl
theorem lyD_44 (cy : Nat → ClassId) (ad : Nat → Nat) (f : Nat → Int) : layD cy ad 44 f = ceN (cy 0) 6 f := rfl
theorem lyD_45 (cy : Nat → ClassId) (ad : Nat → Nat) (f : Nat → Int) : layD cy ad 45 f = ceN (cy 0) 4 f := rfl
theorem lyD_46 (cy : Nat → ClassId) (ad : Nat → Nat) (f : Nat → Int) : layD cy ad 46 f = ceN (cy 0) 4 f := rfl
theorem lyD_47 (cy : Nat → ClassId) (ad : Nat → Nat) (f : Nat → Int) : layD cy ad 47 f = ceN (cy 0) 4 f := rfl
theorem lyD_48 (cy : Nat → ClassId) (ad : Nat → Nat) (f : Nat → Int) : layD cy ad 48 f = ceN (cy 0) 4 f := rfl
theorem lyD_49 (cy : Nat → ClassId) (ad : Nat → Nat) (f : Nat → Int) : layD cy ad 49 f = ceN (cy 0) 4 f := rfl
theorem lyD_300 (cy : Nat → ClassId) (ad : Nat → Nat) (f : Nat → Int) : layD cy ad 300 f = ceO ad 11 [nu (f 0), nu (f 1), nu (f 2), nu (f 3), nu (f 4), rf (f 5), rf (f 6), rf (f 7), rf (f 8), rf (f 9), rf (f 10), rf (f 11), rf (f 12), rf (f 13), rf (f 14), nu (f 15), nu (f 16), nu (f 17), rf (f 18), nu (f 19), nu (f 20), nu (f 21), nu (f 22), rf (f 23), rf (f 24), rf (f 25), nu (f 26), rf (f 27), rf (f 28), rf (f 29), rf (f 30), rf (f 31), nu (f 32), nu (f 33), rf (f 34), rf (f 35), rf (f 36), rf (f 37), rf (f 38), rf (f 39), rf (f 40), rf (f 41), rf (f 42), rf (f 43), rf (f 44), nu (f 45), rf (f 46), rf (f 47), rf (f 48), rf (f 49), rf (f 50), nu (f 51), rf (f 52), rf (f 53)] := rfl
theorem lyD_301 (cy : Nat → ClassId) (ad : Nat → Nat) (f : Nat → Int) : layD cy ad 301 f = ceN (cy 0) 6 f := rfl
theorem lyD_302 (cy : Nat → ClassId) (ad : Nat → Nat) (f : Nat → Int) : layD cy ad 302 f = ceN (cy 0) 6 f := rfl
theorem lyD_303 (cy : Nat → ClassId) (ad : Nat → Nat) (f : Nat → Int) : layD cy ad 303 f = ceN (cy 0) 6 f := rfl
theorem lyD_304 (cy : Nat → ClassId) (ad : Nat → Nat) (f : Nat → Int) : layD cy ad 304 f = ceN (cy 0) 6 f := rfl
theorem lyD_305 (cy : Nat → ClassId) (ad : Nat → Nat) (f : Nat → Int) : layD cy ad 305 f = ceN (cy 0) 6 f := rfl
theorem lyD_306 (cy : Nat → ClassId) (ad : Nat → Nat) (f : Nat → Int) : layD cy ad 306 f = ceN (cy 0) 40 f := rfl
theorem lyD_307 (cy : Nat → ClassId) (ad : Nat → Nat) (f : Nat → Int) : layD cy ad 307 f = ceN (cy 0) 40 f := rfl
theorem lyD_308 (cy : Nat → ClassId) (ad : Nat → Nat) (f : Nat → Int) : layD cy ad 308 f = ceN (cy 0) 40 f := rfl
theorem lyD_309 (cy : Nat → ClassId) (ad : Nat → Nat) (f : Nat → Int) : layD cy ad 309 f = ceN (cy 0) 40 f := rfl
theorem lyD_310 (cy : Nat → ClassId) (ad : Nat → Nat) (f : Nat → Int) : layD cy ad 310 f = ceN (cy 0) 40 f := rfl
theorem lyD_311 (cy : Nat → ClassId) (ad : Nat → Nat) (f : Nat → Int) : layD cy ad 311 f = ceN (cy 1) 200 f := rfl
theorem lyD_312 (cy : Nat → ClassId) (ad : Nat → Nat) (f : Nat → Int) : layD cy ad 312 f = ceN (cy 0) 9 f := rfl
theorem lyD_313 (cy : Nat → ClassId) (ad : Nat → Nat) (f : Nat → Int) : layD cy ad 313 f = ceN (cy 0) 9 f := rfl
theorem lyD_314 (cy : Nat → ClassId) (ad : Nat → Nat) (f : Nat → Int) : layD cy ad 314 f = ceN (cy 2) 9 f := rfl
theorem lyD_315 (cy : Nat → ClassId) (ad : Nat → Nat) (f : Nat → Int) : layD cy ad 315 f = ceN (cy 0) 30 f := rfl
theorem lyD_316 (cy : Nat → ClassId) (ad : Nat → Nat) (f : Nat → Int) : layD cy ad 316 f = ceN (cy 0) 30 f := rfl
theorem lyD_317 (cy : Nat → ClassId) (ad : Nat → Nat) (f : Nat → Int) : layD cy ad 317 f = ceN (cy 0) 30 f := rfl
theorem lyD_318 (cy : Nat → ClassId) (ad : Nat → Nat) (f : Nat → Int) : layD cy ad 318 f = ceN (cy 0) 30 f := rfl
theorem lyD_319 (cy : Nat → ClassId) (ad : Nat → Nat) (f : Nat → Int) : layD cy ad 319 f = ceN (cy 0) 30 f := rfl
theorem lyD_320 (cy : Nat → ClassId) (ad : Nat → Nat) (f : Nat → Int) : layD cy ad 320 f = ceN (cy 0) 5 f := rfl
theorem lyD_321 (cy : Nat → ClassId) (ad : Nat → Nat) (f : Nat → Int) : layD cy ad 321 f = ceN (cy 0) 5 f := rfl
theorem lyD_322 (cy : Nat → ClassId) (ad : Nat → Nat) (f : Nat → Int) : layD cy ad 322 f = ceN (cy 0) 5 f := rfl
theorem lyD_323 (cy : Nat → ClassId) (ad : Nat → Nat) (f : Nat → Int) : layD cy ad 323 f = ceN (cy 0) 5 f := rfl
theorem lyD_324 (cy : Nat → ClassId) (ad : Nat → Nat) (f : Nat → Int) : layD cy ad 324 f = ceN (cy 0) 5 f := rfl
theorem lyD_325 (cy : Nat → ClassId) (ad : Nat → Nat) (f : Nat → Int) : layD cy ad 325 f = ceN (cy 0) 5 f := rfl
theorem lyD_326 (cy : Nat → ClassId) (ad : Nat → Nat) (f : Nat → Int) : layD cy ad 326 f = ceN (cy 0) 5 f := rfl
theorem lyD_327 (cy : Nat → ClassId) (ad : Nat → Nat) (f : Nat → Int) : layD cy ad 327 f = ceN (cy 0) 5 f := rfl
theorem lyD_328 (cy : Nat → ClassId) (ad : Nat → Nat) (f : Nat → Int) : layD cy ad 328 f = ceN (cy 0) 5 f := rfl
theorem lyD_329 (cy : Nat → ClassId) (ad : Nat → Nat) (f : Nat → Int) : layD cy ad 329 f = ceN (cy 0) 6 f := rfl
theorem lyD_330 (cy : Nat → ClassId) (ad : Nat → Nat) (f : Nat → Int) : layD cy ad 330 f = ceN (cy 0) 3002 f := rfl
theorem lyD_331 (cy : Nat → ClassId) (ad : Nat → Nat) (f : Nat → Int) : layD cy ad 331 f = ceN (cy 0) 20 f := rfl
theorem lyD_332 (cy : Nat → ClassId) (ad : Nat → Nat) (f : Nat → Int) : layD cy ad 332 f = ceN (cy 0) 20 f := rfl
theorem lyD_333 (cy : Nat → ClassId) (ad : Nat → Nat) (f : Nat → Int) : layD cy ad 333 f = ceN (cy 0) 20 f := rfl
theorem lyD_334 (cy : Nat → ClassId) (ad : Nat → Nat) (f : Nat → Int) : layD cy ad 334 f = ceN (cy 0) 20 f := rfl
theorem lyD_335 (cy : Nat → ClassId) (ad : Nat → Nat) (f : Nat → Int) : layD cy ad 335 f = ceN (cy 2) 20 f := rfl
theorem lyD_336 (cy : Nat → ClassId) (ad : Nat → Nat) (f : Nat → Int) : layD cy ad 336 f = ceN (cy 0) 40 f := rfl
theorem lyD_337 (cy : Nat → ClassId) (ad : Nat → Nat) (f : Nat → Int) : layD cy ad 337 f = ceR ad (cy 5) 40 f := rfl
theorem lyD_338 (cy : Nat → ClassId) (ad : Nat → Nat) (f : Nat → Int) : layD cy ad 338 f = ceN (cy 0) 40 f := rfl
theorem lyD_339 (cy : Nat → ClassId) (ad : Nat → Nat) (f : Nat → Int) : layD cy ad 339 f = ceN (cy 0) 40 f := rfl
theorem lyD_340 (cy : Nat → ClassId) (ad : Nat → Nat) (f : Nat → Int) : layD cy ad 340 f = ceN (cy 0) 40 f := rfl
theorem lyD_341 (cy : Nat → ClassId) (ad : Nat → Nat) (f : Nat → Int) : layD cy ad 341 f = ceN (cy 0) 40 f := rfl
theorem lyD_342 (cy : Nat → ClassId) (ad : Nat → Nat) (f : Nat → Int) : layD cy ad 342 f = ceN (cy 0) 40 f := rfl
theorem lyD_343 (cy : Nat → ClassId) (ad : Nat → Nat) (f : Nat → Int) : layD cy ad 343 f = ceN (cy 0) 40 f := rfl
theorem lyD_344 (cy : Nat → ClassId) (ad : Nat → Nat) (f : Nat → Int) : layD cy ad 344 f = ceN (cy 0) 40 f := rfl
theorem lyD_345 (cy : Nat → ClassId) (ad : Nat → Nat) (f : Nat → Int) : layD cy ad 345 f = ceN (cy 0) 40 f := rfl
theorem lyD_346 (cy : Nat → ClassId) (ad : Nat → Nat) (f : Nat → Int) : layD cy ad 346 f = ceN (cy 0) 40 f := rfl
theorem lyD_347 (cy : Nat → ClassId) (ad : Nat → Nat) (f : Nat → Int) : layD cy ad 347 f = ceN (cy 0) 40 f := rfl
theorem lyD_348 (cy : Nat → ClassId) (ad : Nat → Nat) (f : Nat → Int) : layD cy ad 348 f = ceN (cy 0) 40 f := rfl
theorem lyD_349 (cy : Nat → ClassId) (ad : Nat → Nat) (f : Nat → Int) : layD cy ad 349 f = ceN (cy 0) 40 f := rfl
theorem lyD_350 (cy : Nat → ClassId) (ad : Nat → Nat) (f : Nat → Int) : layD cy ad 350 f = ceN (cy 0) 40 f := rfl
theorem lyD_351 (cy : Nat → ClassId) (ad : Nat → Nat) (f : Nat → Int) : layD cy ad 351 f = ceN (cy 0) 40 f := rfl
theorem lyD_352 (cy : Nat → ClassId) (ad : Nat → Nat) (f : Nat → Int) : layD cy ad 352 f = ceN (cy 0) 40 f := rfl
theorem lyD_353 (cy : Nat → ClassId) (ad : Nat → Nat) (f : Nat → Int) : layD cy ad 353 f = ceN (cy 0) 40 f := rfl
theorem lyD_354 (cy : Nat → ClassId) (ad : Nat → Nat) (f : Nat → Int) : layD cy ad 354 f = ceN (cy 0) 40 f := rfl
theorem lyD_355 (cy : Nat → ClassId) (ad : Nat → Nat) (f : Nat → Int) : layD cy ad 355 f = ceN (cy 0) 40 f := rfl
theorem lyD_356 (cy : Nat → ClassId) (ad : Nat → Nat) (f : Nat → Int) : layD cy ad 356 f = ceN (cy 0) 40 f := rfl
theorem lyD_357 (cy : Nat → ClassId) (ad : Nat → Nat) (f : Nat → Int) : layD cy ad 357 f = ceN (cy 0) 40 f := rfl
theorem lyD_358 (cy : Nat → ClassId) (ad : Nat → Nat) (f : Nat → Int) : layD cy ad 358 f = ceN (cy 0) 40 f := rfl
theorem lyD_359 (cy : Nat → ClassId) (ad : Nat → Nat) (f : Nat → Int) : layD cy ad 359 f = ceN (cy 0) 40 f := rfl
theorem lyD_360 (cy : Nat → ClassId) (ad : Nat → Nat) (f : Nat → Int) : layD cy ad 360 f = ceN (cy 0) 40 f := rfl
theorem lyD_361 (cy : Nat → ClassId) (ad : Nat → Nat) (f : Nat → Int) : layD cy ad 361 f = ceN (cy 0) 40 f := rfl
theorem lyD_362 (cy : Nat → ClassId) (ad : Nat → Nat) (f : Nat → Int) : layD cy ad 362 f = ceN (cy 0) 40 f := rfl
theorem lyD_363 (cy : Nat → ClassId) (ad : Nat → Nat) (f : Nat → Int) : layD cy ad 363 f = ceN (cy 0) 40 f := rfl
theorem lyD_364 (cy : Nat → ClassId) (ad : Nat → Nat) (f : Nat → Int) : layD cy ad 364 f = ceN (cy 0) 40 f := rfl
theorem lyD_365 (cy : Nat → ClassId) (ad : Nat → Nat) (f : Nat → Int) : layD cy ad 365 f = ceN (cy 0) 40 f := rfl
theorem lyD_366 (cy : Nat → ClassId) (ad : Nat → Nat) (f : Nat → Int) : layD cy ad 366 f = ceN (cy 0) 40 f := rfl
theorem lyD_367 (cy : Nat → ClassId) (ad : Nat → Nat) (f : Nat → Int) : layD cy ad 367 f = ceN (cy 0) 40 f := rfl
theorem lyD_368 (cy : Nat → ClassId) (ad : Nat → Nat) (f : Nat → Int) : layD cy ad 368 f = ceN (cy 0) 40 f := rfl
theorem lyD_369 (cy : Nat → ClassId) (ad : Nat → Nat) (f : Nat → Int) : layD cy ad 369 f = ceN (cy 0) 40 f := rfl
theorem lyD_370 (cy : Nat → ClassId) (ad : Nat → Nat) (f : Nat → Int) : layD cy ad 370 f = ceN (cy 0) 40 f := rfl
theorem lyD_371 (cy : Nat → ClassId) (ad : Nat → Nat) (f : Nat → Int) : layD cy ad 371 f = ceN (cy 0) 40 f := rfl
theorem lyD_372 (cy : Nat → ClassId) (ad : Nat → Nat) (f : Nat → Int) : layD cy ad 372 f = ceN (cy 0) 40 f := rfl
theorem lyD_373 (cy : Nat → ClassId) (ad : Nat → Nat) (f : Nat → Int) : layD cy ad 373 f = ceN (cy 0) 40 f := rfl
theorem lyD_374 (cy : Nat → ClassId) (ad : Nat → Nat) (f : Nat → Int) : layD cy ad 374 f = ceN (cy 0) 40 f := rfl
theorem lyD_375 (cy : Nat → ClassId) (ad : Nat → Nat) (f : Nat → Int) : layD cy ad 375 f = ceN (cy 0) 40 f := rfl
theorem lyD_376 (cy : Nat → ClassId) (ad : Nat → Nat) (f : Nat → Int) : layD cy ad 376 f = ceN (cy 0) 40 f := rfl
theorem lyD_377 (cy : Nat → ClassId) (ad : Nat → Nat) (f : Nat → Int) : layD cy ad 377 f = ceN (cy 0) 40 f := rfl
theorem ceO_cong {ad ad1 : Nat → Nat} {ci : Nat} {vs : List AV} (h : ∀ v ∈ vs, vv ad1 v = vv ad v) : ceO ad1 ci vs = ceO ad ci vs := by
  unfold ceO
  rw [List.map_congr_left h]
theorem ceR_cong {ad ad1 : Nat → Nat} {cA : ClassId} {n : Nat} {f : Nat → Int} (h : ∀ i, rv ad1 (f i) = rv ad (f i)) : ceR ad1 cA n f = ceR ad cA n f := by
  have : (fun i => ptr ad1 (f i)) = fun i => ptr ad (f i) := by
    funext i
    have h1 := h i
    unfold rv at h1
    unfold ptr
    split
    · rfl
    · rename_i hx
      rw [if_neg hx, if_neg hx] at h1
      injection h1 with e
      rw [e]
  unfold ceR
  rw [this]
theorem sd_0 {cy : Nat → ClassId} {ad ad1 : Nat → Nat} {f : Nat → Int} (hf : ∀ k, refpos 0 k = true → rv ad1 (f k) = rv ad (f k)) : layD cy ad1 0 f = layD cy ad 0 f := by
  rw [lyD_0, lyD_0]
  refine ceO_cong ?_
  simp only [List.mem_cons, List.not_mem_nil, or_false, forall_eq_or_imp, forall_eq]
  exact ⟨hf 0 rfl, hf 1 rfl, hf 2 rfl, hf 3 rfl, hf 4 rfl, hf 5 rfl, hf 6 rfl, hf 7 rfl⟩
theorem sd_1 {cy : Nat → ClassId} {ad ad1 : Nat → Nat} {f : Nat → Int} (hf : ∀ k, refpos 1 k = true → rv ad1 (f k) = rv ad (f k)) : layD cy ad1 1 f = layD cy ad 1 f := by
  rw [lyD_1, lyD_1]
  refine ceO_cong ?_
  simp only [List.mem_cons, List.not_mem_nil, or_false, forall_eq_or_imp, forall_eq]
  exact ⟨hf 0 rfl, hf 1 rfl, hf 2 rfl, rfl, hf 4 rfl, hf 5 rfl, rfl⟩
theorem sd_2 {cy : Nat → ClassId} {ad ad1 : Nat → Nat} {f : Nat → Int} (hf : ∀ k, refpos 2 k = true → rv ad1 (f k) = rv ad (f k)) : layD cy ad1 2 f = layD cy ad 2 f := by
  rw [lyD_2, lyD_2]
  refine ceO_cong ?_
  simp only [List.mem_cons, List.not_mem_nil, or_false, forall_eq_or_imp, forall_eq]
  exact ⟨hf 0 rfl, hf 1 rfl, rfl, rfl⟩
theorem sd_3 {cy : Nat → ClassId} {ad ad1 : Nat → Nat} {f : Nat → Int} (hf : ∀ k, refpos 3 k = true → rv ad1 (f k) = rv ad (f k)) : layD cy ad1 3 f = layD cy ad 3 f := by
  rw [lyD_3, lyD_3]
  refine ceO_cong ?_
  simp only [List.mem_cons, List.not_mem_nil, or_false, forall_eq_or_imp, forall_eq]
  exact ⟨hf 0 rfl, rfl⟩
theorem sd_4 {cy : Nat → ClassId} {ad ad1 : Nat → Nat} {f : Nat → Int} (hf : ∀ k, refpos 4 k = true → rv ad1 (f k) = rv ad (f k)) : layD cy ad1 4 f = layD cy ad 4 f := by
  rw [lyD_4, lyD_4]
  refine ceO_cong ?_
  simp only [List.mem_cons, List.not_mem_nil, or_false, forall_eq_or_imp, forall_eq]
  exact hf 0 rfl
theorem sd_5 {cy : Nat → ClassId} {ad ad1 : Nat → Nat} {f : Nat → Int} (hf : ∀ k, refpos 5 k = true → rv ad1 (f k) = rv ad (f k)) : layD cy ad1 5 f = layD cy ad 5 f := by
  rw [lyD_5, lyD_5]
  refine ceO_cong ?_
  simp only [List.mem_cons, List.not_mem_nil, or_false, forall_eq_or_imp, forall_eq]
  exact ⟨hf 0 rfl, hf 1 rfl, rfl, rfl, rfl, rfl⟩
theorem sd_6 {cy : Nat → ClassId} {ad ad1 : Nat → Nat} {f : Nat → Int} (hf : ∀ k, refpos 6 k = true → rv ad1 (f k) = rv ad (f k)) : layD cy ad1 6 f = layD cy ad 6 f := by
  rw [lyD_6, lyD_6]
  refine ceO_cong ?_
  simp only [List.mem_cons, List.not_mem_nil, or_false, forall_eq_or_imp, forall_eq]
  exact ⟨hf 0 rfl, hf 1 rfl, hf 2 rfl, hf 3 rfl, hf 4 rfl, rfl, rfl, rfl, rfl, rfl, rfl⟩
theorem sd_7 {cy : Nat → ClassId} {ad ad1 : Nat → Nat} {f : Nat → Int} (hf : ∀ k, refpos 7 k = true → rv ad1 (f k) = rv ad (f k)) : layD cy ad1 7 f = layD cy ad 7 f := by
  rw [lyD_7, lyD_7]
  refine ceO_cong ?_
  simp only [List.mem_cons, List.not_mem_nil, or_false, forall_eq_or_imp, forall_eq]
  exact ⟨hf 0 rfl, hf 1 rfl, hf 2 rfl, hf 3 rfl, hf 4 rfl, rfl, hf 6 rfl, hf 7 rfl, hf 8 rfl, hf 9 rfl, hf 10 rfl, hf 11 rfl, hf 12 rfl, hf 13 rfl, rfl, rfl, hf 16 rfl, rfl⟩
theorem sd_8 {cy : Nat → ClassId} {ad ad1 : Nat → Nat} {f : Nat → Int} (hf : ∀ k, refpos 8 k = true → rv ad1 (f k) = rv ad (f k)) : layD cy ad1 8 f = layD cy ad 8 f := by
  rw [lyD_8, lyD_8]
  refine ceO_cong ?_
  simp only [List.mem_cons, List.not_mem_nil, or_false, forall_eq_or_imp, forall_eq]
  exact ⟨hf 0 rfl, hf 1 rfl, hf 2 rfl, hf 3 rfl, hf 4 rfl, rfl, rfl, rfl, hf 8 rfl, hf 9 rfl, rfl, hf 11 rfl, hf 12 rfl⟩
theorem sd_9 {cy : Nat → ClassId} {ad ad1 : Nat → Nat} {f : Nat → Int} (hf : ∀ k, refpos 9 k = true → rv ad1 (f k) = rv ad (f k)) : layD cy ad1 9 f = layD cy ad 9 f := rfl
theorem sd_10 {cy : Nat → ClassId} {ad ad1 : Nat → Nat} {f : Nat → Int} (hf : ∀ k, refpos 10 k = true → rv ad1 (f k) = rv ad (f k)) : layD cy ad1 10 f = layD cy ad 10 f := rfl
theorem sd_11 {cy : Nat → ClassId} {ad ad1 : Nat → Nat} {f : Nat → Int} (hf : ∀ k, refpos 11 k = true → rv ad1 (f k) = rv ad (f k)) : layD cy ad1 11 f = layD cy ad 11 f := rfl
theorem sd_12 {cy : Nat → ClassId} {ad ad1 : Nat → Nat} {f : Nat → Int} (hf : ∀ k, refpos 12 k = true → rv ad1 (f k) = rv ad (f k)) : layD cy ad1 12 f = layD cy ad 12 f := rfl
theorem sd_13 {cy : Nat → ClassId} {ad ad1 : Nat → Nat} {f : Nat → Int} (hf : ∀ k, refpos 13 k = true → rv ad1 (f k) = rv ad (f k)) : layD cy ad1 13 f = layD cy ad 13 f := rfl
theorem sd_14 {cy : Nat → ClassId} {ad ad1 : Nat → Nat} {f : Nat → Int} (hf : ∀ k, refpos 14 k = true → rv ad1 (f k) = rv ad (f k)) : layD cy ad1 14 f = layD cy ad 14 f := rfl
theorem sd_15 {cy : Nat → ClassId} {ad ad1 : Nat → Nat} {f : Nat → Int} (hf : ∀ k, refpos 15 k = true → rv ad1 (f k) = rv ad (f k)) : layD cy ad1 15 f = layD cy ad 15 f := rfl
theorem sd_16 {cy : Nat → ClassId} {ad ad1 : Nat → Nat} {f : Nat → Int} (hf : ∀ k, refpos 16 k = true → rv ad1 (f k) = rv ad (f k)) : layD cy ad1 16 f = layD cy ad 16 f := rfl
theorem sd_17 {cy : Nat → ClassId} {ad ad1 : Nat → Nat} {f : Nat → Int} (hf : ∀ k, refpos 17 k = true → rv ad1 (f k) = rv ad (f k)) : layD cy ad1 17 f = layD cy ad 17 f := rfl
theorem sd_18 {cy : Nat → ClassId} {ad ad1 : Nat → Nat} {f : Nat → Int} (hf : ∀ k, refpos 18 k = true → rv ad1 (f k) = rv ad (f k)) : layD cy ad1 18 f = layD cy ad 18 f := rfl
theorem sd_19 {cy : Nat → ClassId} {ad ad1 : Nat → Nat} {f : Nat → Int} (hf : ∀ k, refpos 19 k = true → rv ad1 (f k) = rv ad (f k)) : layD cy ad1 19 f = layD cy ad 19 f := by
  rw [lyD_19, lyD_19]
  exact ceR_cong (fun j => hf j rfl)
theorem sd_20 {cy : Nat → ClassId} {ad ad1 : Nat → Nat} {f : Nat → Int} (hf : ∀ k, refpos 20 k = true → rv ad1 (f k) = rv ad (f k)) : layD cy ad1 20 f = layD cy ad 20 f := by
  rw [lyD_20, lyD_20]
  exact ceR_cong (fun j => hf j rfl)
theorem sd_21 {cy : Nat → ClassId} {ad ad1 : Nat → Nat} {f : Nat → Int} (hf : ∀ k, refpos 21 k = true → rv ad1 (f k) = rv ad (f k)) : layD cy ad1 21 f = layD cy ad 21 f := by
  rw [lyD_21, lyD_21]
  exact ceR_cong (fun j => hf j rfl)
theorem sd_22 {cy : Nat → ClassId} {ad ad1 : Nat → Nat} {f : Nat → Int} (hf : ∀ k, refpos 22 k = true → rv ad1 (f k) = rv ad (f k)) : layD cy ad1 22 f = layD cy ad 22 f := rfl
theorem sd_23 {cy : Nat → ClassId} {ad ad1 : Nat → Nat} {f : Nat → Int} (hf : ∀ k, refpos 23 k = true → rv ad1 (f k) = rv ad (f k)) : layD cy ad1 23 f = layD cy ad 23 f := by
  rw [lyD_23, lyD_23]
  exact ceR_cong (fun j => hf j rfl)
theorem sd_24 {cy : Nat → ClassId} {ad ad1 : Nat → Nat} {f : Nat → Int} (hf : ∀ k, refpos 24 k = true → rv ad1 (f k) = rv ad (f k)) : layD cy ad1 24 f = layD cy ad 24 f := rfl
theorem sd_25 {cy : Nat → ClassId} {ad ad1 : Nat → Nat} {f : Nat → Int} (hf : ∀ k, refpos 25 k = true → rv ad1 (f k) = rv ad (f k)) : layD cy ad1 25 f = layD cy ad 25 f := rfl
theorem sd_26 {cy : Nat → ClassId} {ad ad1 : Nat → Nat} {f : Nat → Int} (hf : ∀ k, refpos 26 k = true → rv ad1 (f k) = rv ad (f k)) : layD cy ad1 26 f = layD cy ad 26 f := rfl
theorem sd_27 {cy : Nat → ClassId} {ad ad1 : Nat → Nat} {f : Nat → Int} (hf : ∀ k, refpos 27 k = true → rv ad1 (f k) = rv ad (f k)) : layD cy ad1 27 f = layD cy ad 27 f := rfl
theorem sd_28 {cy : Nat → ClassId} {ad ad1 : Nat → Nat} {f : Nat → Int} (hf : ∀ k, refpos 28 k = true → rv ad1 (f k) = rv ad (f k)) : layD cy ad1 28 f = layD cy ad 28 f := rfl
theorem sd_29 {cy : Nat → ClassId} {ad ad1 : Nat → Nat} {f : Nat → Int} (hf : ∀ k, refpos 29 k = true → rv ad1 (f k) = rv ad (f k)) : layD cy ad1 29 f = layD cy ad 29 f := rfl
theorem sd_30 {cy : Nat → ClassId} {ad ad1 : Nat → Nat} {f : Nat → Int} (hf : ∀ k, refpos 30 k = true → rv ad1 (f k) = rv ad (f k)) : layD cy ad1 30 f = layD cy ad 30 f := rfl
theorem sd_31 {cy : Nat → ClassId} {ad ad1 : Nat → Nat} {f : Nat → Int} (hf : ∀ k, refpos 31 k = true → rv ad1 (f k) = rv ad (f k)) : layD cy ad1 31 f = layD cy ad 31 f := by
  rw [lyD_31, lyD_31]
  exact ceR_cong (fun j => hf j rfl)
theorem sd_32 {cy : Nat → ClassId} {ad ad1 : Nat → Nat} {f : Nat → Int} (hf : ∀ k, refpos 32 k = true → rv ad1 (f k) = rv ad (f k)) : layD cy ad1 32 f = layD cy ad 32 f := rfl
theorem sd_33 {cy : Nat → ClassId} {ad ad1 : Nat → Nat} {f : Nat → Int} (hf : ∀ k, refpos 33 k = true → rv ad1 (f k) = rv ad (f k)) : layD cy ad1 33 f = layD cy ad 33 f := rfl
theorem sd_34 {cy : Nat → ClassId} {ad ad1 : Nat → Nat} {f : Nat → Int} (hf : ∀ k, refpos 34 k = true → rv ad1 (f k) = rv ad (f k)) : layD cy ad1 34 f = layD cy ad 34 f := rfl
theorem sd_35 {cy : Nat → ClassId} {ad ad1 : Nat → Nat} {f : Nat → Int} (hf : ∀ k, refpos 35 k = true → rv ad1 (f k) = rv ad (f k)) : layD cy ad1 35 f = layD cy ad 35 f := rfl
theorem sd_36 {cy : Nat → ClassId} {ad ad1 : Nat → Nat} {f : Nat → Int} (hf : ∀ k, refpos 36 k = true → rv ad1 (f k) = rv ad (f k)) : layD cy ad1 36 f = layD cy ad 36 f := rfl
theorem sd_37 {cy : Nat → ClassId} {ad ad1 : Nat → Nat} {f : Nat → Int} (hf : ∀ k, refpos 37 k = true → rv ad1 (f k) = rv ad (f k)) : layD cy ad1 37 f = layD cy ad 37 f := rfl
theorem sd_38 {cy : Nat → ClassId} {ad ad1 : Nat → Nat} {f : Nat → Int} (hf : ∀ k, refpos 38 k = true → rv ad1 (f k) = rv ad (f k)) : layD cy ad1 38 f = layD cy ad 38 f := rfl
theorem sd_39 {cy : Nat → ClassId} {ad ad1 : Nat → Nat} {f : Nat → Int} (hf : ∀ k, refpos 39 k = true → rv ad1 (f k) = rv ad (f k)) : layD cy ad1 39 f = layD cy ad 39 f := rfl
theorem sd_40 {cy : Nat → ClassId} {ad ad1 : Nat → Nat} {f : Nat → Int} (hf : ∀ k, refpos 40 k = true → rv ad1 (f k) = rv ad (f k)) : layD cy ad1 40 f = layD cy ad 40 f := rfl
theorem sd_41 {cy : Nat → ClassId} {ad ad1 : Nat → Nat} {f : Nat → Int} (hf : ∀ k, refpos 41 k = true → rv ad1 (f k) = rv ad (f k)) : layD cy ad1 41 f = layD cy ad 41 f := rfl
theorem sd_42 {cy : Nat → ClassId} {ad ad1 : Nat → Nat} {f : Nat → Int} (hf : ∀ k, refpos 42 k = true → rv ad1 (f k) = rv ad (f k)) : layD cy ad1 42 f = layD cy ad 42 f := rfl
theorem sd_43 {cy : Nat → ClassId} {ad ad1 : Nat → Nat} {f : Nat → Int} (hf : ∀ k, refpos 43 k = true → rv ad1 (f k) = rv ad (f k)) : layD cy ad1 43 f = layD cy ad 43 f := rfl
theorem sd_44 {cy : Nat → ClassId} {ad ad1 : Nat → Nat} {f : Nat → Int} (hf : ∀ k, refpos 44 k = true → rv ad1 (f k) = rv ad (f k)) : layD cy ad1 44 f = layD cy ad 44 f := rfl
theorem sd_45 {cy : Nat → ClassId} {ad ad1 : Nat → Nat} {f : Nat → Int} (hf : ∀ k, refpos 45 k = true → rv ad1 (f k) = rv ad (f k)) : layD cy ad1 45 f = layD cy ad 45 f := rfl
theorem sd_46 {cy : Nat → ClassId} {ad ad1 : Nat → Nat} {f : Nat → Int} (hf : ∀ k, refpos 46 k = true → rv ad1 (f k) = rv ad (f k)) : layD cy ad1 46 f = layD cy ad 46 f := rfl
theorem sd_47 {cy : Nat → ClassId} {ad ad1 : Nat → Nat} {f : Nat → Int} (hf : ∀ k, refpos 47 k = true → rv ad1 (f k) = rv ad (f k)) : layD cy ad1 47 f = layD cy ad 47 f := rfl
theorem sd_48 {cy : Nat → ClassId} {ad ad1 : Nat → Nat} {f : Nat → Int} (hf : ∀ k, refpos 48 k = true → rv ad1 (f k) = rv ad (f k)) : layD cy ad1 48 f = layD cy ad 48 f := rfl
theorem sd_49 {cy : Nat → ClassId} {ad ad1 : Nat → Nat} {f : Nat → Int} (hf : ∀ k, refpos 49 k = true → rv ad1 (f k) = rv ad (f k)) : layD cy ad1 49 f = layD cy ad 49 f := rfl
theorem sd_300 {cy : Nat → ClassId} {ad ad1 : Nat → Nat} {f : Nat → Int} (hf : ∀ k, refpos 300 k = true → rv ad1 (f k) = rv ad (f k)) : layD cy ad1 300 f = layD cy ad 300 f := by
  rw [lyD_300, lyD_300]
  refine ceO_cong ?_
  simp only [List.mem_cons, List.not_mem_nil, or_false, forall_eq_or_imp, forall_eq]
  exact ⟨rfl, rfl, rfl, rfl, rfl, hf 5 rfl, hf 6 rfl, hf 7 rfl, hf 8 rfl, hf 9 rfl, hf 10 rfl, hf 11 rfl, hf 12 rfl, hf 13 rfl, hf 14 rfl, rfl, rfl, rfl, hf 18 rfl, rfl, rfl, rfl, rfl, hf 23 rfl, hf 24 rfl, hf 25 rfl, rfl, hf 27 rfl, hf 28 rfl, hf 29 rfl, hf 30 rfl, hf 31 rfl, rfl, rfl, hf 34 rfl, hf 35 rfl, hf 36 rfl, hf 37 rfl, hf 38 rfl, hf 39 rfl, hf 40 rfl, hf 41 rfl, hf 42 rfl, hf 43 rfl, hf 44 rfl, rfl, hf 46 rfl, hf 47 rfl, hf 48 rfl, hf 49 rfl, hf 50 rfl, rfl, hf 52 rfl, hf 53 rfl⟩
theorem sd_301 {cy : Nat → ClassId} {ad ad1 : Nat → Nat} {f : Nat → Int} (hf : ∀ k, refpos 301 k = true → rv ad1 (f k) = rv ad (f k)) : layD cy ad1 301 f = layD cy ad 301 f := rfl
theorem sd_302 {cy : Nat → ClassId} {ad ad1 : Nat → Nat} {f : Nat → Int} (hf : ∀ k, refpos 302 k = true → rv ad1 (f k) = rv ad (f k)) : layD cy ad1 302 f = layD cy ad 302 f := rfl
theorem sd_303 {cy : Nat → ClassId} {ad ad1 : Nat → Nat} {f : Nat → Int} (hf : ∀ k, refpos 303 k = true → rv ad1 (f k) = rv ad (f k)) : layD cy ad1 303 f = layD cy ad 303 f := rfl
theorem sd_304 {cy : Nat → ClassId} {ad ad1 : Nat → Nat} {f : Nat → Int} (hf : ∀ k, refpos 304 k = true → rv ad1 (f k) = rv ad (f k)) : layD cy ad1 304 f = layD cy ad 304 f := rfl
theorem sd_305 {cy : Nat → ClassId} {ad ad1 : Nat → Nat} {f : Nat → Int} (hf : ∀ k, refpos 305 k = true → rv ad1 (f k) = rv ad (f k)) : layD cy ad1 305 f = layD cy ad 305 f := rfl
theorem sd_306 {cy : Nat → ClassId} {ad ad1 : Nat → Nat} {f : Nat → Int} (hf : ∀ k, refpos 306 k = true → rv ad1 (f k) = rv ad (f k)) : layD cy ad1 306 f = layD cy ad 306 f := rfl
theorem sd_307 {cy : Nat → ClassId} {ad ad1 : Nat → Nat} {f : Nat → Int} (hf : ∀ k, refpos 307 k = true → rv ad1 (f k) = rv ad (f k)) : layD cy ad1 307 f = layD cy ad 307 f := rfl
theorem sd_308 {cy : Nat → ClassId} {ad ad1 : Nat → Nat} {f : Nat → Int} (hf : ∀ k, refpos 308 k = true → rv ad1 (f k) = rv ad (f k)) : layD cy ad1 308 f = layD cy ad 308 f := rfl
theorem sd_309 {cy : Nat → ClassId} {ad ad1 : Nat → Nat} {f : Nat → Int} (hf : ∀ k, refpos 309 k = true → rv ad1 (f k) = rv ad (f k)) : layD cy ad1 309 f = layD cy ad 309 f := rfl
theorem sd_310 {cy : Nat → ClassId} {ad ad1 : Nat → Nat} {f : Nat → Int} (hf : ∀ k, refpos 310 k = true → rv ad1 (f k) = rv ad (f k)) : layD cy ad1 310 f = layD cy ad 310 f := rfl
theorem sd_311 {cy : Nat → ClassId} {ad ad1 : Nat → Nat} {f : Nat → Int} (hf : ∀ k, refpos 311 k = true → rv ad1 (f k) = rv ad (f k)) : layD cy ad1 311 f = layD cy ad 311 f := rfl
theorem sd_312 {cy : Nat → ClassId} {ad ad1 : Nat → Nat} {f : Nat → Int} (hf : ∀ k, refpos 312 k = true → rv ad1 (f k) = rv ad (f k)) : layD cy ad1 312 f = layD cy ad 312 f := rfl
theorem sd_313 {cy : Nat → ClassId} {ad ad1 : Nat → Nat} {f : Nat → Int} (hf : ∀ k, refpos 313 k = true → rv ad1 (f k) = rv ad (f k)) : layD cy ad1 313 f = layD cy ad 313 f := rfl
theorem sd_314 {cy : Nat → ClassId} {ad ad1 : Nat → Nat} {f : Nat → Int} (hf : ∀ k, refpos 314 k = true → rv ad1 (f k) = rv ad (f k)) : layD cy ad1 314 f = layD cy ad 314 f := rfl
theorem sd_315 {cy : Nat → ClassId} {ad ad1 : Nat → Nat} {f : Nat → Int} (hf : ∀ k, refpos 315 k = true → rv ad1 (f k) = rv ad (f k)) : layD cy ad1 315 f = layD cy ad 315 f := rfl
theorem sd_316 {cy : Nat → ClassId} {ad ad1 : Nat → Nat} {f : Nat → Int} (hf : ∀ k, refpos 316 k = true → rv ad1 (f k) = rv ad (f k)) : layD cy ad1 316 f = layD cy ad 316 f := rfl
theorem sd_317 {cy : Nat → ClassId} {ad ad1 : Nat → Nat} {f : Nat → Int} (hf : ∀ k, refpos 317 k = true → rv ad1 (f k) = rv ad (f k)) : layD cy ad1 317 f = layD cy ad 317 f := rfl
theorem sd_318 {cy : Nat → ClassId} {ad ad1 : Nat → Nat} {f : Nat → Int} (hf : ∀ k, refpos 318 k = true → rv ad1 (f k) = rv ad (f k)) : layD cy ad1 318 f = layD cy ad 318 f := rfl
theorem sd_319 {cy : Nat → ClassId} {ad ad1 : Nat → Nat} {f : Nat → Int} (hf : ∀ k, refpos 319 k = true → rv ad1 (f k) = rv ad (f k)) : layD cy ad1 319 f = layD cy ad 319 f := rfl
theorem sd_320 {cy : Nat → ClassId} {ad ad1 : Nat → Nat} {f : Nat → Int} (hf : ∀ k, refpos 320 k = true → rv ad1 (f k) = rv ad (f k)) : layD cy ad1 320 f = layD cy ad 320 f := rfl
theorem sd_321 {cy : Nat → ClassId} {ad ad1 : Nat → Nat} {f : Nat → Int} (hf : ∀ k, refpos 321 k = true → rv ad1 (f k) = rv ad (f k)) : layD cy ad1 321 f = layD cy ad 321 f := rfl
theorem sd_322 {cy : Nat → ClassId} {ad ad1 : Nat → Nat} {f : Nat → Int} (hf : ∀ k, refpos 322 k = true → rv ad1 (f k) = rv ad (f k)) : layD cy ad1 322 f = layD cy ad 322 f := rfl
theorem sd_323 {cy : Nat → ClassId} {ad ad1 : Nat → Nat} {f : Nat → Int} (hf : ∀ k, refpos 323 k = true → rv ad1 (f k) = rv ad (f k)) : layD cy ad1 323 f = layD cy ad 323 f := rfl
theorem sd_324 {cy : Nat → ClassId} {ad ad1 : Nat → Nat} {f : Nat → Int} (hf : ∀ k, refpos 324 k = true → rv ad1 (f k) = rv ad (f k)) : layD cy ad1 324 f = layD cy ad 324 f := rfl
theorem sd_325 {cy : Nat → ClassId} {ad ad1 : Nat → Nat} {f : Nat → Int} (hf : ∀ k, refpos 325 k = true → rv ad1 (f k) = rv ad (f k)) : layD cy ad1 325 f = layD cy ad 325 f := rfl
theorem sd_326 {cy : Nat → ClassId} {ad ad1 : Nat → Nat} {f : Nat → Int} (hf : ∀ k, refpos 326 k = true → rv ad1 (f k) = rv ad (f k)) : layD cy ad1 326 f = layD cy ad 326 f := rfl
theorem sd_327 {cy : Nat → ClassId} {ad ad1 : Nat → Nat} {f : Nat → Int} (hf : ∀ k, refpos 327 k = true → rv ad1 (f k) = rv ad (f k)) : layD cy ad1 327 f = layD cy ad 327 f := rfl
theorem sd_328 {cy : Nat → ClassId} {ad ad1 : Nat → Nat} {f : Nat → Int} (hf : ∀ k, refpos 328 k = true → rv ad1 (f k) = rv ad (f k)) : layD cy ad1 328 f = layD cy ad 328 f := rfl
theorem sd_329 {cy : Nat → ClassId} {ad ad1 : Nat → Nat} {f : Nat → Int} (hf : ∀ k, refpos 329 k = true → rv ad1 (f k) = rv ad (f k)) : layD cy ad1 329 f = layD cy ad 329 f := rfl
theorem sd_330 {cy : Nat → ClassId} {ad ad1 : Nat → Nat} {f : Nat → Int} (hf : ∀ k, refpos 330 k = true → rv ad1 (f k) = rv ad (f k)) : layD cy ad1 330 f = layD cy ad 330 f := rfl
theorem sd_331 {cy : Nat → ClassId} {ad ad1 : Nat → Nat} {f : Nat → Int} (hf : ∀ k, refpos 331 k = true → rv ad1 (f k) = rv ad (f k)) : layD cy ad1 331 f = layD cy ad 331 f := rfl
theorem sd_332 {cy : Nat → ClassId} {ad ad1 : Nat → Nat} {f : Nat → Int} (hf : ∀ k, refpos 332 k = true → rv ad1 (f k) = rv ad (f k)) : layD cy ad1 332 f = layD cy ad 332 f := rfl
theorem sd_333 {cy : Nat → ClassId} {ad ad1 : Nat → Nat} {f : Nat → Int} (hf : ∀ k, refpos 333 k = true → rv ad1 (f k) = rv ad (f k)) : layD cy ad1 333 f = layD cy ad 333 f := rfl
theorem sd_334 {cy : Nat → ClassId} {ad ad1 : Nat → Nat} {f : Nat → Int} (hf : ∀ k, refpos 334 k = true → rv ad1 (f k) = rv ad (f k)) : layD cy ad1 334 f = layD cy ad 334 f := rfl
theorem sd_335 {cy : Nat → ClassId} {ad ad1 : Nat → Nat} {f : Nat → Int} (hf : ∀ k, refpos 335 k = true → rv ad1 (f k) = rv ad (f k)) : layD cy ad1 335 f = layD cy ad 335 f := rfl
theorem sd_336 {cy : Nat → ClassId} {ad ad1 : Nat → Nat} {f : Nat → Int} (hf : ∀ k, refpos 336 k = true → rv ad1 (f k) = rv ad (f k)) : layD cy ad1 336 f = layD cy ad 336 f := rfl
theorem sd_337 {cy : Nat → ClassId} {ad ad1 : Nat → Nat} {f : Nat → Int} (hf : ∀ k, refpos 337 k = true → rv ad1 (f k) = rv ad (f k)) : layD cy ad1 337 f = layD cy ad 337 f := by
  rw [lyD_337, lyD_337]
  exact ceR_cong (fun j => hf j rfl)
theorem sd_338 {cy : Nat → ClassId} {ad ad1 : Nat → Nat} {f : Nat → Int} (hf : ∀ k, refpos 338 k = true → rv ad1 (f k) = rv ad (f k)) : layD cy ad1 338 f = layD cy ad 338 f := rfl
theorem sd_339 {cy : Nat → ClassId} {ad ad1 : Nat → Nat} {f : Nat → Int} (hf : ∀ k, refpos 339 k = true → rv ad1 (f k) = rv ad (f k)) : layD cy ad1 339 f = layD cy ad 339 f := rfl
theorem sd_340 {cy : Nat → ClassId} {ad ad1 : Nat → Nat} {f : Nat → Int} (hf : ∀ k, refpos 340 k = true → rv ad1 (f k) = rv ad (f k)) : layD cy ad1 340 f = layD cy ad 340 f := rfl
theorem sd_341 {cy : Nat → ClassId} {ad ad1 : Nat → Nat} {f : Nat → Int} (hf : ∀ k, refpos 341 k = true → rv ad1 (f k) = rv ad (f k)) : layD cy ad1 341 f = layD cy ad 341 f := rfl
theorem sd_342 {cy : Nat → ClassId} {ad ad1 : Nat → Nat} {f : Nat → Int} (hf : ∀ k, refpos 342 k = true → rv ad1 (f k) = rv ad (f k)) : layD cy ad1 342 f = layD cy ad 342 f := rfl
theorem sd_343 {cy : Nat → ClassId} {ad ad1 : Nat → Nat} {f : Nat → Int} (hf : ∀ k, refpos 343 k = true → rv ad1 (f k) = rv ad (f k)) : layD cy ad1 343 f = layD cy ad 343 f := rfl
theorem sd_344 {cy : Nat → ClassId} {ad ad1 : Nat → Nat} {f : Nat → Int} (hf : ∀ k, refpos 344 k = true → rv ad1 (f k) = rv ad (f k)) : layD cy ad1 344 f = layD cy ad 344 f := rfl
theorem sd_345 {cy : Nat → ClassId} {ad ad1 : Nat → Nat} {f : Nat → Int} (hf : ∀ k, refpos 345 k = true → rv ad1 (f k) = rv ad (f k)) : layD cy ad1 345 f = layD cy ad 345 f := rfl
theorem sd_346 {cy : Nat → ClassId} {ad ad1 : Nat → Nat} {f : Nat → Int} (hf : ∀ k, refpos 346 k = true → rv ad1 (f k) = rv ad (f k)) : layD cy ad1 346 f = layD cy ad 346 f := rfl
theorem sd_347 {cy : Nat → ClassId} {ad ad1 : Nat → Nat} {f : Nat → Int} (hf : ∀ k, refpos 347 k = true → rv ad1 (f k) = rv ad (f k)) : layD cy ad1 347 f = layD cy ad 347 f := rfl
theorem sd_348 {cy : Nat → ClassId} {ad ad1 : Nat → Nat} {f : Nat → Int} (hf : ∀ k, refpos 348 k = true → rv ad1 (f k) = rv ad (f k)) : layD cy ad1 348 f = layD cy ad 348 f := rfl
theorem sd_349 {cy : Nat → ClassId} {ad ad1 : Nat → Nat} {f : Nat → Int} (hf : ∀ k, refpos 349 k = true → rv ad1 (f k) = rv ad (f k)) : layD cy ad1 349 f = layD cy ad 349 f := rfl
theorem sd_350 {cy : Nat → ClassId} {ad ad1 : Nat → Nat} {f : Nat → Int} (hf : ∀ k, refpos 350 k = true → rv ad1 (f k) = rv ad (f k)) : layD cy ad1 350 f = layD cy ad 350 f := rfl
theorem sd_351 {cy : Nat → ClassId} {ad ad1 : Nat → Nat} {f : Nat → Int} (hf : ∀ k, refpos 351 k = true → rv ad1 (f k) = rv ad (f k)) : layD cy ad1 351 f = layD cy ad 351 f := rfl
theorem sd_352 {cy : Nat → ClassId} {ad ad1 : Nat → Nat} {f : Nat → Int} (hf : ∀ k, refpos 352 k = true → rv ad1 (f k) = rv ad (f k)) : layD cy ad1 352 f = layD cy ad 352 f := rfl
theorem sd_353 {cy : Nat → ClassId} {ad ad1 : Nat → Nat} {f : Nat → Int} (hf : ∀ k, refpos 353 k = true → rv ad1 (f k) = rv ad (f k)) : layD cy ad1 353 f = layD cy ad 353 f := rfl
theorem sd_354 {cy : Nat → ClassId} {ad ad1 : Nat → Nat} {f : Nat → Int} (hf : ∀ k, refpos 354 k = true → rv ad1 (f k) = rv ad (f k)) : layD cy ad1 354 f = layD cy ad 354 f := rfl
theorem sd_355 {cy : Nat → ClassId} {ad ad1 : Nat → Nat} {f : Nat → Int} (hf : ∀ k, refpos 355 k = true → rv ad1 (f k) = rv ad (f k)) : layD cy ad1 355 f = layD cy ad 355 f := rfl
theorem sd_356 {cy : Nat → ClassId} {ad ad1 : Nat → Nat} {f : Nat → Int} (hf : ∀ k, refpos 356 k = true → rv ad1 (f k) = rv ad (f k)) : layD cy ad1 356 f = layD cy ad 356 f := rfl
theorem sd_357 {cy : Nat → ClassId} {ad ad1 : Nat → Nat} {f : Nat → Int} (hf : ∀ k, refpos 357 k = true → rv ad1 (f k) = rv ad (f k)) : layD cy ad1 357 f = layD cy ad 357 f := rfl
theorem sd_358 {cy : Nat → ClassId} {ad ad1 : Nat → Nat} {f : Nat → Int} (hf : ∀ k, refpos 358 k = true → rv ad1 (f k) = rv ad (f k)) : layD cy ad1 358 f = layD cy ad 358 f := rfl
theorem sd_359 {cy : Nat → ClassId} {ad ad1 : Nat → Nat} {f : Nat → Int} (hf : ∀ k, refpos 359 k = true → rv ad1 (f k) = rv ad (f k)) : layD cy ad1 359 f = layD cy ad 359 f := rfl
theorem sd_360 {cy : Nat → ClassId} {ad ad1 : Nat → Nat} {f : Nat → Int} (hf : ∀ k, refpos 360 k = true → rv ad1 (f k) = rv ad (f k)) : layD cy ad1 360 f = layD cy ad 360 f := rfl
theorem sd_361 {cy : Nat → ClassId} {ad ad1 : Nat → Nat} {f : Nat → Int} (hf : ∀ k, refpos 361 k = true → rv ad1 (f k) = rv ad (f k)) : layD cy ad1 361 f = layD cy ad 361 f := rfl
theorem sd_362 {cy : Nat → ClassId} {ad ad1 : Nat → Nat} {f : Nat → Int} (hf : ∀ k, refpos 362 k = true → rv ad1 (f k) = rv ad (f k)) : layD cy ad1 362 f = layD cy ad 362 f := rfl
theorem sd_363 {cy : Nat → ClassId} {ad ad1 : Nat → Nat} {f : Nat → Int} (hf : ∀ k, refpos 363 k = true → rv ad1 (f k) = rv ad (f k)) : layD cy ad1 363 f = layD cy ad 363 f := rfl
theorem sd_364 {cy : Nat → ClassId} {ad ad1 : Nat → Nat} {f : Nat → Int} (hf : ∀ k, refpos 364 k = true → rv ad1 (f k) = rv ad (f k)) : layD cy ad1 364 f = layD cy ad 364 f := rfl
theorem sd_365 {cy : Nat → ClassId} {ad ad1 : Nat → Nat} {f : Nat → Int} (hf : ∀ k, refpos 365 k = true → rv ad1 (f k) = rv ad (f k)) : layD cy ad1 365 f = layD cy ad 365 f := rfl
theorem sd_366 {cy : Nat → ClassId} {ad ad1 : Nat → Nat} {f : Nat → Int} (hf : ∀ k, refpos 366 k = true → rv ad1 (f k) = rv ad (f k)) : layD cy ad1 366 f = layD cy ad 366 f := rfl
theorem sd_367 {cy : Nat → ClassId} {ad ad1 : Nat → Nat} {f : Nat → Int} (hf : ∀ k, refpos 367 k = true → rv ad1 (f k) = rv ad (f k)) : layD cy ad1 367 f = layD cy ad 367 f := rfl
theorem sd_368 {cy : Nat → ClassId} {ad ad1 : Nat → Nat} {f : Nat → Int} (hf : ∀ k, refpos 368 k = true → rv ad1 (f k) = rv ad (f k)) : layD cy ad1 368 f = layD cy ad 368 f := rfl
theorem sd_369 {cy : Nat → ClassId} {ad ad1 : Nat → Nat} {f : Nat → Int} (hf : ∀ k, refpos 369 k = true → rv ad1 (f k) = rv ad (f k)) : layD cy ad1 369 f = layD cy ad 369 f := rfl
theorem sd_370 {cy : Nat → ClassId} {ad ad1 : Nat → Nat} {f : Nat → Int} (hf : ∀ k, refpos 370 k = true → rv ad1 (f k) = rv ad (f k)) : layD cy ad1 370 f = layD cy ad 370 f := rfl
theorem sd_371 {cy : Nat → ClassId} {ad ad1 : Nat → Nat} {f : Nat → Int} (hf : ∀ k, refpos 371 k = true → rv ad1 (f k) = rv ad (f k)) : layD cy ad1 371 f = layD cy ad 371 f := rfl
theorem sd_372 {cy : Nat → ClassId} {ad ad1 : Nat → Nat} {f : Nat → Int} (hf : ∀ k, refpos 372 k = true → rv ad1 (f k) = rv ad (f k)) : layD cy ad1 372 f = layD cy ad 372 f := rfl
theorem sd_373 {cy : Nat → ClassId} {ad ad1 : Nat → Nat} {f : Nat → Int} (hf : ∀ k, refpos 373 k = true → rv ad1 (f k) = rv ad (f k)) : layD cy ad1 373 f = layD cy ad 373 f := rfl
theorem sd_374 {cy : Nat → ClassId} {ad ad1 : Nat → Nat} {f : Nat → Int} (hf : ∀ k, refpos 374 k = true → rv ad1 (f k) = rv ad (f k)) : layD cy ad1 374 f = layD cy ad 374 f := rfl
theorem sd_375 {cy : Nat → ClassId} {ad ad1 : Nat → Nat} {f : Nat → Int} (hf : ∀ k, refpos 375 k = true → rv ad1 (f k) = rv ad (f k)) : layD cy ad1 375 f = layD cy ad 375 f := rfl
theorem sd_376 {cy : Nat → ClassId} {ad ad1 : Nat → Nat} {f : Nat → Int} (hf : ∀ k, refpos 376 k = true → rv ad1 (f k) = rv ad (f k)) : layD cy ad1 376 f = layD cy ad 376 f := rfl
theorem sd_377 {cy : Nat → ClassId} {ad ad1 : Nat → Nat} {f : Nat → Int} (hf : ∀ k, refpos 377 k = true → rv ad1 (f k) = rv ad (f k)) : layD cy ad1 377 f = layD cy ad 377 f := rfl
theorem sd_base {cy : Nat → ClassId} {ad ad1 : Nat → Nat} {f : Nat → Int} : ∀ a ∈ baseL, (∀ k, refpos a k = true → rv ad1 (f k) = rv ad (f k)) → layD cy ad1 a f = layD cy ad a f := by
  unfold baseL
  refine List.forall_mem_cons.mpr ⟨fun hf => sd_0 hf, ?_⟩
  refine List.forall_mem_cons.mpr ⟨fun hf => sd_1 hf, ?_⟩
  refine List.forall_mem_cons.mpr ⟨fun hf => sd_2 hf, ?_⟩
  refine List.forall_mem_cons.mpr ⟨fun hf => sd_3 hf, ?_⟩
  refine List.forall_mem_cons.mpr ⟨fun hf => sd_4 hf, ?_⟩
  refine List.forall_mem_cons.mpr ⟨fun hf => sd_5 hf, ?_⟩
  refine List.forall_mem_cons.mpr ⟨fun hf => sd_6 hf, ?_⟩
  refine List.forall_mem_cons.mpr ⟨fun hf => sd_7 hf, ?_⟩
  refine List.forall_mem_cons.mpr ⟨fun hf => sd_8 hf, ?_⟩
  refine List.forall_mem_cons.mpr ⟨fun hf => sd_9 hf, ?_⟩
  refine List.forall_mem_cons.mpr ⟨fun hf => sd_10 hf, ?_⟩
  refine List.forall_mem_cons.mpr ⟨fun hf => sd_11 hf, ?_⟩
  refine List.forall_mem_cons.mpr ⟨fun hf => sd_12 hf, ?_⟩
  refine List.forall_mem_cons.mpr ⟨fun hf => sd_13 hf, ?_⟩
  refine List.forall_mem_cons.mpr ⟨fun hf => sd_14 hf, ?_⟩
  refine List.forall_mem_cons.mpr ⟨fun hf => sd_15 hf, ?_⟩
  refine List.forall_mem_cons.mpr ⟨fun hf => sd_16 hf, ?_⟩
  refine List.forall_mem_cons.mpr ⟨fun hf => sd_17 hf, ?_⟩
  refine List.forall_mem_cons.mpr ⟨fun hf => sd_18 hf, ?_⟩
  refine List.forall_mem_cons.mpr ⟨fun hf => sd_19 hf, ?_⟩
  refine List.forall_mem_cons.mpr ⟨fun hf => sd_20 hf, ?_⟩
  refine List.forall_mem_cons.mpr ⟨fun hf => sd_21 hf, ?_⟩
  refine List.forall_mem_cons.mpr ⟨fun hf => sd_22 hf, ?_⟩
  refine List.forall_mem_cons.mpr ⟨fun hf => sd_23 hf, ?_⟩
  refine List.forall_mem_cons.mpr ⟨fun hf => sd_24 hf, ?_⟩
  refine List.forall_mem_cons.mpr ⟨fun hf => sd_25 hf, ?_⟩
  refine List.forall_mem_cons.mpr ⟨fun hf => sd_26 hf, ?_⟩
  refine List.forall_mem_cons.mpr ⟨fun hf => sd_27 hf, ?_⟩
  refine List.forall_mem_cons.mpr ⟨fun hf => sd_28 hf, ?_⟩
  refine List.forall_mem_cons.mpr ⟨fun hf => sd_29 hf, ?_⟩
  refine List.forall_mem_cons.mpr ⟨fun hf => sd_30 hf, ?_⟩
  refine List.forall_mem_cons.mpr ⟨fun hf => sd_31 hf, ?_⟩
  refine List.forall_mem_cons.mpr ⟨fun hf => sd_32 hf, ?_⟩
  refine List.forall_mem_cons.mpr ⟨fun hf => sd_33 hf, ?_⟩
  refine List.forall_mem_cons.mpr ⟨fun hf => sd_34 hf, ?_⟩
  refine List.forall_mem_cons.mpr ⟨fun hf => sd_35 hf, ?_⟩
  refine List.forall_mem_cons.mpr ⟨fun hf => sd_36 hf, ?_⟩
  refine List.forall_mem_cons.mpr ⟨fun hf => sd_37 hf, ?_⟩
  refine List.forall_mem_cons.mpr ⟨fun hf => sd_38 hf, ?_⟩
  refine List.forall_mem_cons.mpr ⟨fun hf => sd_39 hf, ?_⟩
  refine List.forall_mem_cons.mpr ⟨fun hf => sd_40 hf, ?_⟩
  refine List.forall_mem_cons.mpr ⟨fun hf => sd_41 hf, ?_⟩
  refine List.forall_mem_cons.mpr ⟨fun hf => sd_42 hf, ?_⟩
  refine List.forall_mem_cons.mpr ⟨fun hf => sd_43 hf, ?_⟩
  refine List.forall_mem_cons.mpr ⟨fun hf => sd_44 hf, ?_⟩
  refine List.forall_mem_cons.mpr ⟨fun hf => sd_45 hf, ?_⟩
  refine List.forall_mem_cons.mpr ⟨fun hf => sd_46 hf, ?_⟩
  refine List.forall_mem_cons.mpr ⟨fun hf => sd_47 hf, ?_⟩
  refine List.forall_mem_cons.mpr ⟨fun hf => sd_48 hf, ?_⟩
  refine List.forall_mem_cons.mpr ⟨fun hf => sd_49 hf, ?_⟩
  refine List.forall_mem_cons.mpr ⟨fun hf => sd_300 hf, ?_⟩
  refine List.forall_mem_cons.mpr ⟨fun hf => sd_301 hf, ?_⟩
  refine List.forall_mem_cons.mpr ⟨fun hf => sd_302 hf, ?_⟩
  refine List.forall_mem_cons.mpr ⟨fun hf => sd_303 hf, ?_⟩
  refine List.forall_mem_cons.mpr ⟨fun hf => sd_304 hf, ?_⟩
  refine List.forall_mem_cons.mpr ⟨fun hf => sd_305 hf, ?_⟩
  refine List.forall_mem_cons.mpr ⟨fun hf => sd_306 hf, ?_⟩
  refine List.forall_mem_cons.mpr ⟨fun hf => sd_307 hf, ?_⟩
  refine List.forall_mem_cons.mpr ⟨fun hf => sd_308 hf, ?_⟩
  refine List.forall_mem_cons.mpr ⟨fun hf => sd_309 hf, ?_⟩
  refine List.forall_mem_cons.mpr ⟨fun hf => sd_310 hf, ?_⟩
  refine List.forall_mem_cons.mpr ⟨fun hf => sd_311 hf, ?_⟩
  refine List.forall_mem_cons.mpr ⟨fun hf => sd_312 hf, ?_⟩
  refine List.forall_mem_cons.mpr ⟨fun hf => sd_313 hf, ?_⟩
  refine List.forall_mem_cons.mpr ⟨fun hf => sd_314 hf, ?_⟩
  refine List.forall_mem_cons.mpr ⟨fun hf => sd_315 hf, ?_⟩
  refine List.forall_mem_cons.mpr ⟨fun hf => sd_316 hf, ?_⟩
  refine List.forall_mem_cons.mpr ⟨fun hf => sd_317 hf, ?_⟩
  refine List.forall_mem_cons.mpr ⟨fun hf => sd_318 hf, ?_⟩
  refine List.forall_mem_cons.mpr ⟨fun hf => sd_319 hf, ?_⟩
  refine List.forall_mem_cons.mpr ⟨fun hf => sd_320 hf, ?_⟩
  refine List.forall_mem_cons.mpr ⟨fun hf => sd_321 hf, ?_⟩
  refine List.forall_mem_cons.mpr ⟨fun hf => sd_322 hf, ?_⟩
  refine List.forall_mem_cons.mpr ⟨fun hf => sd_323 hf, ?_⟩
  refine List.forall_mem_cons.mpr ⟨fun hf => sd_324 hf, ?_⟩
  refine List.forall_mem_cons.mpr ⟨fun hf => sd_325 hf, ?_⟩
  refine List.forall_mem_cons.mpr ⟨fun hf => sd_326 hf, ?_⟩
  refine List.forall_mem_cons.mpr ⟨fun hf => sd_327 hf, ?_⟩
  refine List.forall_mem_cons.mpr ⟨fun hf => sd_328 hf, ?_⟩
  refine List.forall_mem_cons.mpr ⟨fun hf => sd_329 hf, ?_⟩
  refine List.forall_mem_cons.mpr ⟨fun hf => sd_330 hf, ?_⟩
  refine List.forall_mem_cons.mpr ⟨fun hf => sd_331 hf, ?_⟩
  refine List.forall_mem_cons.mpr ⟨fun hf => sd_332 hf, ?_⟩
  refine List.forall_mem_cons.mpr ⟨fun hf => sd_333 hf, ?_⟩
  refine List.forall_mem_cons.mpr ⟨fun hf => sd_334 hf, ?_⟩
  refine List.forall_mem_cons.mpr ⟨fun hf => sd_335 hf, ?_⟩
  refine List.forall_mem_cons.mpr ⟨fun hf => sd_336 hf, ?_⟩
  refine List.forall_mem_cons.mpr ⟨fun hf => sd_337 hf, ?_⟩
  refine List.forall_mem_cons.mpr ⟨fun hf => sd_338 hf, ?_⟩
  refine List.forall_mem_cons.mpr ⟨fun hf => sd_339 hf, ?_⟩
  refine List.forall_mem_cons.mpr ⟨fun hf => sd_340 hf, ?_⟩
  refine List.forall_mem_cons.mpr ⟨fun hf => sd_341 hf, ?_⟩
  refine List.forall_mem_cons.mpr ⟨fun hf => sd_342 hf, ?_⟩
  refine List.forall_mem_cons.mpr ⟨fun hf => sd_343 hf, ?_⟩
  refine List.forall_mem_cons.mpr ⟨fun hf => sd_344 hf, ?_⟩
  refine List.forall_mem_cons.mpr ⟨fun hf => sd_345 hf, ?_⟩
  refine List.forall_mem_cons.mpr ⟨fun hf => sd_346 hf, ?_⟩
  refine List.forall_mem_cons.mpr ⟨fun hf => sd_347 hf, ?_⟩
  refine List.forall_mem_cons.mpr ⟨fun hf => sd_348 hf, ?_⟩
  refine List.forall_mem_cons.mpr ⟨fun hf => sd_349 hf, ?_⟩
  refine List.forall_mem_cons.mpr ⟨fun hf => sd_350 hf, ?_⟩
  refine List.forall_mem_cons.mpr ⟨fun hf => sd_351 hf, ?_⟩
  refine List.forall_mem_cons.mpr ⟨fun hf => sd_352 hf, ?_⟩
  refine List.forall_mem_cons.mpr ⟨fun hf => sd_353 hf, ?_⟩
  refine List.forall_mem_cons.mpr ⟨fun hf => sd_354 hf, ?_⟩
  refine List.forall_mem_cons.mpr ⟨fun hf => sd_355 hf, ?_⟩
  refine List.forall_mem_cons.mpr ⟨fun hf => sd_356 hf, ?_⟩
  refine List.forall_mem_cons.mpr ⟨fun hf => sd_357 hf, ?_⟩
  refine List.forall_mem_cons.mpr ⟨fun hf => sd_358 hf, ?_⟩
  refine List.forall_mem_cons.mpr ⟨fun hf => sd_359 hf, ?_⟩
  refine List.forall_mem_cons.mpr ⟨fun hf => sd_360 hf, ?_⟩
  refine List.forall_mem_cons.mpr ⟨fun hf => sd_361 hf, ?_⟩
  refine List.forall_mem_cons.mpr ⟨fun hf => sd_362 hf, ?_⟩
  refine List.forall_mem_cons.mpr ⟨fun hf => sd_363 hf, ?_⟩
  refine List.forall_mem_cons.mpr ⟨fun hf => sd_364 hf, ?_⟩
  refine List.forall_mem_cons.mpr ⟨fun hf => sd_365 hf, ?_⟩
  refine List.forall_mem_cons.mpr ⟨fun hf => sd_366 hf, ?_⟩
  refine List.forall_mem_cons.mpr ⟨fun hf => sd_367 hf, ?_⟩
  refine List.forall_mem_cons.mpr ⟨fun hf => sd_368 hf, ?_⟩
  refine List.forall_mem_cons.mpr ⟨fun hf => sd_369 hf, ?_⟩
  refine List.forall_mem_cons.mpr ⟨fun hf => sd_370 hf, ?_⟩
  refine List.forall_mem_cons.mpr ⟨fun hf => sd_371 hf, ?_⟩
  refine List.forall_mem_cons.mpr ⟨fun hf => sd_372 hf, ?_⟩
  refine List.forall_mem_cons.mpr ⟨fun hf => sd_373 hf, ?_⟩
  refine List.forall_mem_cons.mpr ⟨fun hf => sd_374 hf, ?_⟩
  refine List.forall_mem_cons.mpr ⟨fun hf => sd_375 hf, ?_⟩
  refine List.forall_mem_cons.mpr ⟨fun hf => sd_376 hf, ?_⟩
  refine List.forall_mem_cons.mpr ⟨fun hf => sd_377 hf, ?_⟩
  intro a ha
  exact absurd ha List.not_mem_nil
theorem bas_lt {a : Nat} (h : bas a = true) : a < 400 := by
  unfold bas at h
  rw [Bool.or_eq_true, Bool.and_eq_true, Nat.blt_eq, Nat.blt_eq, Nat.ble_eq] at h
  omega
/-- addresses that agree on the ids leave the world as it is -/
theorem wldD_ad {cy : Nat → ClassId} {ids : List Nat} {ad ad1 : Nat → Nat} {μ : Mem} (hb : ∀ a ∈ ids, bas a = true) (hc : clo ids μ) (h : ∀ a ∈ ids, ad1 a = ad a) : wld (layD cy) ids ad1 μ = wld (layD cy) ids ad μ := by
  unfold wld
  refine List.map_congr_left (fun a ha => ?_)
  rw [h a ha, sd_base (ad := ad) a (baseL_in a (bas_lt (hb a ha)) (hb a ha))]
  intro k hk
  rcases hc a ha k hk with h1 | h1
  · rw [rv_null h1, rv_null h1]
  · unfold rv
    split
    · rfl
    · rw [h _ h1]
def setr (μ : Mem) (o : Nat) (f : Nat → Int) : Mem := fun a => if a = o then f else μ a
theorem setr_at (μ : Mem) (o : Nat) (f : Nat → Int) : setr μ o f o = f := if_pos rfl
theorem setr_ne {μ : Mem} {o a : Nat} {f : Nat → Int} (h : a ≠ o) : setr μ o f a = μ a := if_neg h
def dfl (o : Nat) : Nat → Int := fun k => if refpos o k = true then -1 else 0
theorem wldD_new {cy : Nat → ClassId} {ids : List Nat} {ad : Nat → Nat} {μ : Mem} {o q : Nat} {f0 : Nat → Int} {e : va_E} (hb : ∀ a ∈ ids, bas a = true) (hc : clo ids μ) (ho : o ∉ ids) (he : layD cy (adu ad o q) o f0 = e) : wld (layD cy) (ids ++ [o]) (adu ad o q) (setr μ o f0) = wld (layD cy) ids ad μ ++ [(q, e)] := by
  rw [← wldD_ad hb hc (fun a ha => adu_ne (fun h => ho (h ▸ ha)) : ∀ a ∈ ids, adu ad o q a = ad a)]
  unfold wld
  rw [List.map_append, List.map_singleton, adu_at, setr_at, he]
  congr 1
  refine List.map_congr_left (fun a ha => ?_)
  have hne : a ≠ o := fun h => ho (h ▸ ha)
  rw [setr_ne hne]
theorem clo_setr {ids : List Nat} {μ : Mem} {o : Nat} {f0 : Nat → Int} (hc : clo ids μ) (ho : o ∉ ids) (hf : ∀ k, refpos o k = true → f0 k < 0) : clo (ids ++ [o]) (setr μ o f0) := by
  intro a ha k hk
  rcases List.mem_append.mp ha with h | h
  · have hne : a ≠ o := fun e => ho (e ▸ h)
    rw [setr_ne hne]
    rcases hc a h k hk with h1 | h1
    · exact Or.inl h1
    · exact Or.inr (List.mem_append_left _ h1)
  · have e := List.mem_singleton.mp h
    subst e
    rw [setr_at]
    exact Or.inl (hf k hk)
theorem ok_setr {μ : Mem} {o : Nat} {f0 : Nat → Int} (ho : ok μ) (hf : ∀ k, inR (f0 k)) : ok (setr μ o f0) := by
  intro a k
  unfold setr
  split
  · exact hf k
  · exact ho a k
theorem dfl_in (o k : Nat) : inR (dfl o k) := by
  unfold dfl
  split <;> exact ⟨by decide, by decide⟩
theorem dfl_neg {o k : Nat} (h : refpos o k = true) : dfl o k < 0 := by
  unfold dfl
  rw [if_pos h]
  decide
def AO (U : State) : Prop := va_AO "StoneWorks$Gang" U ∧ va_AO "StoneWorks$Stone" U ∧ va_AOA .int U
def ext0 (ids : List Nat) (ad u : Nat → Nat) : Prop := (∀ a ∈ ids, u a = ad a) ∧ ∀ a, 1000 ≤ a → u a = ad a
def aVM (D : va_G) (tys : List (ClassId × FieldType)) (ly : Lay) (ids : List Nat) (ad : Nat → Nat) (A : Nat → Prop) (ids1 : List Nat) (μ1 : Mem) : Array Value → State → Outcome → State → Prop := va_Qv (fun (u : Nat → Nat) => ext0 ids ad u) (fun u t => PE0 D tys ly ids1 u A μ1 t) A
