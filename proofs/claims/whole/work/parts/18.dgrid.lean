/-! GRIDS: new int[N][K], the outer one with the id o, its rows with the ids b, b + 1, .. -/
def adg (ad : Nat → Nat) (o b N q : Nat) (r : Nat → Nat) : Nat → Nat := fun k => if k = o then q else if b ≤ k ∧ k < b + N then r (k - b) else ad k
def setg (μ : Mem) (o b N : Nat) : Mem := fun a => if a = o then (fun i => if i < N then (b : Int) + (i : Int) else -1) else if b ≤ a ∧ a < b + N then (fun _ => 0) else μ a
def rowsOf (b N : Nat) : List Nat := (List.range N).map (fun i => b + i)
theorem rowsOf_get {b N i : Nat} (h : i < N) : (rowsOf b N)[i]? = some (b + i) := by
  unfold rowsOf
  rw [List.getElem?_map, List.getElem?_range h]
  rfl
theorem rowsOf_len (b N : Nat) : (rowsOf b N).length = N := by
  unfold rowsOf
  rw [List.length_map, List.length_range]
section WG
variable {p : Program} {l : Launch} {e : Env} {R : Room} {s : State} {m : MethodId} {args : Array Value} {below : List Frame} {meth : Method} {c : Code} {cells slots : Nat} {Q : State → Prop} {D : va_G} {tys : List (ClassId × FieldType)} {A : Nat → Prop} {ly : Lay} {ids : List Nat} {ad : Nat → Nat} {nL : Nat} {cc : ByteArray} {own : String} {ret : Option FieldType} {μ : Mem} {pc : Nat} {lv : LV} {st : List AV}
set_option maxHeartbeats 4000000 in
theorem q_mna {cy : Nat → ClassId} (C : Cx p s m args meth c D (tyl cy) A nL cc own ret) {index : Nat} (hcl : Cond.classLink own index "[[I" ∈ WS) (hac : Cond.arrayClass .int ∈ WS) (hao : va_AOA .int s) (N K : Nat) {zn zk : Int} (hzn : zn = (N : Int)) (hzk : zk = (K : Int)) (hN : N < 1000) (hK9 : K < 1000) (o b : Nat) (hlyo : ∀ ad f, layD cy ad o f = ceR ad (cy 5) N f) (hlyr : ∀ i, i < N → ∀ ad f, layD cy ad (b + i) f = ceN (cy 0) K f) (hrp : ∀ i, i < N → ∀ k, refpos (b + i) k = false) {ids1 : List Nat} (hi1 : ids ++ (o :: rowsOf b N) = ids1) (hoi : o ∉ ids) (hri : ∀ i, i < N → b + i ∉ ids) (hob : o < b ∨ b + N ≤ o) (hb : ∀ a ∈ ids, bas a = true) (hlv : ∀ v, some v ∈ lv → v.1 = true → v.2 < 0 ∨ v.2.toNat ∈ ids) (hst : ∀ v ∈ st, v.1 = true → v.2 < 0 ∨ v.2.toNat ∈ ids) (ho1 : o < 1000) (hb1 : b + N < 1000) (hcells : cells + (1 + N) ≤ R.cells) (hslots : slots + (N + N * K) ≤ R.slots) (hd : decode cc pc = .ok (.multianewarray index 2, 4)) (kk : ∀ (ad1 : Nat → Nat) (μ1 : Mem), μ1 = setg μ o b N → ext0 ids ad ad1 → (CF ad A s → CF ad1 A s) → V0 p l e R s m args below meth c (cells + 1 + N) (slots + N + N * K) Q D A (layD cy) ids1 ad1 nL μ1 (pc + 4) lv (rf o :: st)) : V0 p l e R s m args below meth c cells slots Q D A (layD cy) ids ad nL μ pc lv (nu zk :: nu zn :: st) := by
  subst hi1
  subst hzn
  subst hzk
  intro ho hg H locs hP hD hS ls hl
  rw [List.map_cons, List.map_cons, vv_nu, vv_nu]
  have hnr : inR ((N : Nat) : Int) := ⟨by omega, by omega⟩
  have hkr : inR ((K : Nat) : Int) := ⟨by omega, by omega⟩
  have hcy : s.vm.findClass (FieldType.array .int).toString = some (cy 0) := (C.2.2.2.2.2.1.2 0 (cy 0, .int) rfl).2
  refine va_mna (X := wld (layD cy) ids ad μ) (L := []) (f := fun _ => .inl (cy 0, 0, .inl (fun _ => 0))) (ty := .int) (cy := cy 0) (N' := N) (K' := K) (z := (K, .inl (fun _ => zI 0))) C.1 C.2.1 C.2.2.2.1 (C.2.2.2.2.1 _ hcl) hao (C.2.2.2.2.1 _ hac) hcy C.2.2.2.2.2.1 (by rw [show va_pl [] (fun _ => (Sum.inl (cy 0, 0, Sum.inl (fun _ => 0)) : va_E)) = [] from rfl, List.append_nil]; exact hP) (by rw [show va_pl [] (fun _ => (Sum.inl (cy 0, 0, Sum.inl (fun _ => 0)) : va_E)) = [] from rfl, List.append_nil]; exact hD) hS C.2.2.2.2.2.2.1 (by rw [show (0 : Int32) = zI 0 from rfl, zI_lt hnr z0_in]; omega) (by rw [show (0 : Int32) = zI 0 from rfl, zI_lt hkr z0_in]; omega) (by rw [zI_clamp hnr]; omega) (by rw [zI_clamp hkr]; omega) (by omega) (by show K * 4 ≤ 536870912; omega) (by omega) rfl rfl hcells hslots (fun c0 => by show ({ cls := c0, slots := Array.replicate K (Value.int 0), vm := .none } : Cell) = _; rw [arrV_new]; rfl) hd (fun q r cA H1 hinj hnin hK1 hP1 hD1 hS1 => ?_)
  have e1 : s.vm.findClass ("[" ++ (FieldType.array .int).toString) = some cA := (hK1.2 6 (cA, .array .int) rfl).2
  have e2 : s.vm.findClass ("[" ++ (FieldType.array .int).toString) = some (cy 5) := (C.2.2.2.2.2.1.2 5 (cy 5, .array .int) rfl).2
  have e3 : cA = cy 5 := Option.some.inj (e1.symm.trans e2)
  subst e3
  have hX : (wld (layD cy) ids ad μ).length = ids.length := by unfold wld; rw [List.length_map]
  have hao0 : adg ad o b N q r o = q := if_pos rfl
  have har : ∀ i, i < N → adg ad o b N q r (b + i) = r i := fun i hi => by
    unfold adg
    rw [if_neg (by omega), if_pos ⟨by omega, by omega⟩]
    congr 1
    omega
  have hae : ∀ a ∈ ids, adg ad o b N q r a = ad a := fun a ha => by
    have h1 : a ≠ o := fun h => hoi (h ▸ ha)
    have h2 : ¬ (b ≤ a ∧ a < b + N) := fun h => hri (a - b) (by omega) (by rw [show b + (a - b) = a by omega]; exact ha)
    unfold adg
    rw [if_neg h1, if_neg h2]
  have hx0 : ext0 ids ad (adg ad o b N q r) := ⟨hae, fun a ha => by
    unfold adg
    rw [if_neg (by omega), if_neg (by omega)]⟩
  have hme : ∀ a ∈ ids, setg μ o b N a = μ a := fun a ha => by
    have h1 : a ≠ o := fun h => hoi (h ▸ ha)
    have h2 : ¬ (b ≤ a ∧ a < b + N) := fun h => hri (a - b) (by omega) (by rw [show b + (a - b) = a by omega]; exact ha)
    unfold setg
    rw [if_neg h1, if_neg h2]
  have hmo : setg μ o b N o = fun i => if i < N then (b : Int) + (i : Int) else -1 := if_pos rfl
  have hmr : ∀ i, i < N → setg μ o b N (b + i) = fun _ => 0 := fun i hi => by
    unfold setg
    rw [if_neg (by omega), if_pos ⟨by omega, by omega⟩]
  have hsplit : ∀ (k a : Nat), (ids ++ (o :: rowsOf b N))[k]? = some a → (k < ids.length ∧ ids[k]? = some a) ∨ (k = ids.length ∧ a = o) ∨ ∃ i, i < N ∧ k = ids.length + 1 + i ∧ a = b + i := by
    intro k a hk
    by_cases hlt : k < ids.length
    · rw [List.getElem?_append_left hlt] at hk
      exact Or.inl ⟨hlt, hk⟩
    · rw [List.getElem?_append_right (by omega)] at hk
      by_cases h0 : k = ids.length
      · subst h0
        rw [Nat.sub_self] at hk
        cases hk
        exact Or.inr (Or.inl ⟨rfl, rfl⟩)
      · obtain ⟨i, hi⟩ : ∃ i, k = ids.length + 1 + i := ⟨k - ids.length - 1, by omega⟩
        subst hi
        rw [show ids.length + 1 + i - ids.length = i + 1 by omega, List.getElem?_cons_succ] at hk
        have hiN : i < N := by
          have := (List.getElem?_eq_some_iff.mp hk).1
          rwa [rowsOf_len] at this
        rw [rowsOf_get hiN] at hk
        cases hk
        exact Or.inr (Or.inr ⟨i, hiN, rfl, rfl⟩)
  generalize hW1 : ((wld (layD cy) ids ad μ ++ [(q, Sum.inl (cy 5, N, Sum.inr (Sum.inr (Sum.inr (Sum.inr (fun i => if i < N then some (r i) else none))))))]) ++ va_pl ([] ++ (List.range N).map r) (vr_up (fun _ => Sum.inl (cy 0, 0, Sum.inl (fun _ => 0))) ((List.range N).map r) (Sum.inl (cy 0, (K, Sum.inl (fun _ => zI 0))))) : va_W) = W1 at hP1 hD1
  have g1 : ∀ k, k < ids.length → W1[k]? = (wld (layD cy) ids ad μ)[k]? := fun k hk => by
    rw [← hW1, List.getElem?_append_left (by rw [List.length_append, hX]; simp; omega), List.getElem?_append_left (by rw [hX]; exact hk)]
  have g2 : W1[ids.length]? = some (q, Sum.inl (cy 5, N, Sum.inr (Sum.inr (Sum.inr (Sum.inr (fun i => if i < N then some (r i) else none)))))) := by
    rw [← hW1, List.getElem?_append_left (by rw [List.length_append, hX]; simp), List.getElem?_append_right (by rw [hX]; omega), hX, Nat.sub_self]
    rfl
  have g3 : ∀ i, i < N → W1[ids.length + 1 + i]? = some (r i, Sum.inl (cy 0, (K, Sum.inl (fun _ => zI 0)))) := fun i hi => by
    rw [← hW1, List.getElem?_append_right (by rw [List.length_append, hX]; first | (simp; done) | (simp; omega)), List.length_append, hX]
    show (va_pl ([] ++ (List.range N).map r) _)[ids.length + 1 + i - (ids.length + 1)]? = _
    rw [show ids.length + 1 + i - (ids.length + 1) = i by omega, List.nil_append]
    unfold va_pl
    rw [List.getElem?_map, List.getElem?_map, List.getElem?_range hi]
    show some (r i, _) = _
    rw [vr_up_in (List.mem_map.mpr ⟨i, List.mem_range.mpr hi, rfl⟩)]
  have hPn : va_P D vwCl (wld (layD cy) (ids ++ (o :: rowsOf b N)) (adg ad o b N q r) (setg μ o b N)) H1 := by
    intro k x hx
    unfold wld at hx
    rw [List.getElem?_map] at hx
    cases hk : (ids ++ (o :: rowsOf b N))[k]? with
    | none => rw [hk] at hx; cases hx
    | some a =>
      rw [hk] at hx
      cases hx
      show va_at D vwCl (adg ad o b N q r a, layD cy (adg ad o b N q r) a (setg μ o b N a)) H1
      rcases hsplit k a hk with ⟨hlt, h1⟩ | ⟨h1, h1o⟩ | ⟨i, hi, h1, rfl⟩
      · have ha := List.mem_of_getElem? h1
        rw [hae a ha, hme a ha, sd_base (ad := ad) a (baseL_in a (bas_lt (hb a ha)) (hb a ha)) (fun k hk => by
          rcases hg a ha k hk with h2 | h2
          · rw [rv_null h2, rv_null h2]
          · unfold rv
            split
            · rfl
            · rw [hae _ h2])]
        refine hP1 k (ad a, layD cy ad a (μ a)) ?_
        rw [g1 k hlt]
        unfold wld
        rw [List.getElem?_map, h1]
        rfl
      · rw [h1o, hao0, hmo, hlyo]
        have h2 := hP1 ids.length _ g2
        have h3 : H1[q]? = some (arrV (cy 5) N (fun j => va_rf (if j < N then some (r j) else none))) := h2
        show H1[q]? = some (arrV (cy 5) N (fun j => va_rf (ptr (adg ad o b N q r) (if j < N then (b : Int) + (j : Int) else -1))))
        rw [h3]
        congr 1
        refine arrV_cong (fun j hj => ?_)
        rw [if_pos hj, if_pos hj]
        unfold ptr
        rw [if_neg (by omega), show ((b : Int) + (j : Int)).toNat = b + j by omega, har j hj]
      · rw [har i hi, hmr i hi, hlyr i hi]
        exact hP1 (ids.length + 1 + i) _ (g3 i hi)
  have hDn : va_D A (wld (layD cy) (ids ++ (o :: rowsOf b N)) (adg ad o b N q r) (setg μ o b N)) := by
    have key : ∀ (k : Nat) (x : Nat × va_E), (wld (layD cy) (ids ++ (o :: rowsOf b N)) (adg ad o b N q r) (setg μ o b N))[k]? = some x → ∃ e', W1[k]? = some (x.1, e') := by
      intro k x hx
      unfold wld at hx
      rw [List.getElem?_map] at hx
      cases hk : (ids ++ (o :: rowsOf b N))[k]? with
      | none => rw [hk] at hx; cases hx
      | some a =>
        rw [hk] at hx
        cases hx
        show ∃ e', W1[k]? = some (adg ad o b N q r a, e')
        rcases hsplit k a hk with ⟨hlt, h1⟩ | ⟨h1, h1o⟩ | ⟨i, hi, h1, rfl⟩
        · have ha := List.mem_of_getElem? h1
          refine ⟨layD cy ad a (μ a), ?_⟩
          rw [hae a ha, g1 k hlt]
          unfold wld
          rw [List.getElem?_map, h1]
          rfl
        · rw [h1o, hao0, h1]
          exact ⟨_, g2⟩
        · rw [har i hi, h1]
          exact ⟨_, g3 i hi⟩
    refine ⟨fun i j x y hx hy hxy => ?_, fun k x hx => ?_⟩
    · obtain ⟨f1, h1⟩ := key i x hx
      obtain ⟨f2, h2⟩ := key j y hy
      exact hD1.1 i j _ _ h1 h2 hxy
    · obtain ⟨f1, h1⟩ := key k x hx
      exact hD1.2 k (x.1, f1) h1
  have hvv : ∀ v : AV, (v.1 = true → v.2 < 0 ∨ v.2.toNat ∈ ids) → vv (adg ad o b N q r) v = vv ad v := fun v hv => by
    unfold vv
    split
    · rename_i h1
      unfold rv
      split
      · rfl
      · rcases hv h1 with h2 | h2
        · omega
        · rw [hae _ h2]
    · rfl
  have hl1 : lvp (adg ad o b N q r) lv = lvp ad lv := by
    unfold lvp
    congr 1
    funext i
    cases hi : lv[i]? with
    | none => rfl
    | some w =>
      cases w with
      | none => rfl
      | some v =>
        show some (i, vv (adg ad o b N q r) v) = some (i, vv ad v)
        rw [hvv v (hlv v (List.mem_of_getElem? hi))]
  have K := kk (adg ad o b N q r) _ rfl hx0 (CF_ext0 hx0) ?_ ?_ H1 locs hPn hDn hS1 ls (by rw [hl1]; exact hl)
  · rw [List.map_cons, List.map_congr_left (fun v hv => hvv v (hst v hv)), vv_rf, rv_at (by omega), show ((o : Int)).toNat = o by omega, hao0] at K
    exact K
  · intro a j
    unfold setg
    split
    · dsimp only
      split
      · exact ⟨by omega, by omega⟩
      · exact ⟨by decide, by decide⟩
    · split
      · exact z0_in
      · exact ho a j
  · intro a ha k hk
    rcases List.mem_append.mp ha with h | h
    · rw [hme a h]
      rcases hg a h k hk with h1 | h1
      · exact Or.inl h1
      · exact Or.inr (List.mem_append_left _ h1)
    · rcases List.mem_cons.mp h with h | h
      · subst h
        rw [hmo]
        dsimp only
        split
        · rename_i hkN
          refine Or.inr (List.mem_append_right _ (List.mem_cons_of_mem _ ?_))
          rw [show ((b : Int) + (k : Int)).toNat = b + k by omega]
          exact List.mem_of_getElem? (rowsOf_get hkN)
        · exact Or.inl (by decide)
      · unfold rowsOf at h
        obtain ⟨i, hi, rfl⟩ := List.mem_map.mp h
        rw [hrp i (List.mem_range.mp hi)] at hk
        cases hk
end WG
