/-! THE PLAN, the numbers alone -/
section PLANCORE
variable {n : Nat} {rdy : Nat → Nat → Int → Int} {crs : Nat → Int}
/-- the day of laying: what the lesser courses ask, one after the other -/
def layTo (crs : Nat → Int) (Y : Nat → Int) (i : Nat) : Nat → Int → Int
  | 0, d => d
  | k + 1, d => if layTo crs Y i k d = -1 then -1 else if crs k < crs i then (if Y k = -1 ∨ 3000 ≤ Y k then -1 else if layTo crs Y i k d < Y k + 1 then Y k + 1 else layTo crs Y i k d) else layTo crs Y i k d
theorem layTo_cong {Y Y' : Nat → Int} {i : Nat} {d : Int} : ∀ k : Nat, (∀ j, j < k → crs j < crs i → Y j = Y' j) → layTo crs Y i k d = layTo crs Y' i k d
  | 0, _ => rfl
  | k + 1, h => by
    have ih := layTo_cong (d := d) k (fun j hj => h j (by omega))
    show (if layTo crs Y i k d = -1 then -1 else _) = (if layTo crs Y' i k d = -1 then -1 else _)
    rw [ih]
    by_cases c : crs k < crs i
    · rw [h k (by omega) c]
    · rw [if_neg c, if_neg c]
theorem layTo_c {Y : Nat → Int} {i : Nat} {d : Int} (hd : -1 ≤ d) : ∀ k : Nat, (∀ j, j < k → -1 ≤ Y j) → (layTo crs Y i k d = -1 ∧ (d = -1 ∨ ∃ j, j < k ∧ crs j < crs i ∧ (Y j = -1 ∨ 3000 ≤ Y j))) ∨ (layTo crs Y i k d ≠ -1 ∧ d ≠ -1 ∧ (∀ j, j < k → crs j < crs i → Y j ≠ -1 ∧ Y j < 3000 ∧ Y j + 1 ≤ layTo crs Y i k d) ∧ d ≤ layTo crs Y i k d ∧ (layTo crs Y i k d = d ∨ ∃ j, j < k ∧ crs j < crs i ∧ layTo crs Y i k d = Y j + 1))
  | 0, _ => by
    by_cases c : d = -1
    · exact Or.inl ⟨c, Or.inl c⟩
    · exact Or.inr ⟨c, c, fun j hj => by omega, Int.le_refl d, Or.inl rfl⟩
  | k + 1, hY => by
    have ih := layTo_c (i := i) hd k (fun j hj => hY j (by omega))
    have e : layTo crs Y i (k + 1) d = if layTo crs Y i k d = -1 then -1 else if crs k < crs i then (if Y k = -1 ∨ 3000 ≤ Y k then -1 else if layTo crs Y i k d < Y k + 1 then Y k + 1 else layTo crs Y i k d) else layTo crs Y i k d := rfl
    rw [e]
    rcases ih with ⟨h1, h2⟩ | ⟨h1, h2, h3, h4, h5⟩
    · left
      rw [if_pos h1]
      refine ⟨rfl, ?_⟩
      rcases h2 with h2 | ⟨j, h2, h3⟩
      · exact Or.inl h2
      · exact Or.inr ⟨j, by omega, h3⟩
    · rw [if_neg h1]
      by_cases c : crs k < crs i
      · rw [if_pos c]
        by_cases c2 : Y k = -1 ∨ 3000 ≤ Y k
        · left
          rw [if_pos c2]
          exact ⟨rfl, Or.inr ⟨k, by omega, c, c2⟩⟩
        · right
          rw [if_neg c2]
          have hk := hY k (by omega)
          by_cases c3 : layTo crs Y i k d < Y k + 1
          · rw [if_pos c3]
            refine ⟨by omega, h2, fun j hj hc => ?_, by omega, Or.inr ⟨k, by omega, c, rfl⟩⟩
            by_cases ej : j = k
            · subst ej; omega
            · have := h3 j (by omega) hc; omega
          · rw [if_neg c3]
            refine ⟨h1, h2, fun j hj hc => ?_, h4, ?_⟩
            · by_cases ej : j = k
              · subst ej; omega
              · exact h3 j (by omega) hc
            · rcases h5 with h5 | ⟨j, h5, h6⟩
              · exact Or.inl h5
              · exact Or.inr ⟨j, by omega, h6⟩
      · rw [if_neg c]
        right
        refine ⟨h1, h2, fun j hj hc => ?_, h4, ?_⟩
        · by_cases ej : j = k
          · subst ej; exact absurd hc c
          · exact h3 j (by omega) hc
        · rcases h5 with h5 | ⟨j, h5, h6⟩
          · exact Or.inl h5
          · exact Or.inr ⟨j, by omega, h6⟩
/-- the day on which a stone is laid by a gang, in a state of free days F and days of laying Y -/
def layPd (n : Nat) (rdy : Nat → Nat → Int → Int) (crs : Nat → Int) (F Y : Nat → Int) (i g : Nat) : Int := layTo crs Y i n (rdy i g (F g))
/-- a list of stones with gangs goes through with no day behind D -/
def sched (n : Nat) (rdy : Nat → Nat → Int → Int) (crs : Nat → Int) (D : Int) : List (Nat × Nat) → (Nat → Int) → (Nat → Int) → Prop
  | [], _, _ => True
  | p :: l, F, Y => p.1 < n ∧ p.2 < 6 ∧ Y p.1 = -1 ∧ layPd n rdy crs F Y p.1 p.2 ≠ -1 ∧ layPd n rdy crs F Y p.1 p.2 ≤ D ∧ sched n rdy crs D l (upf F p.2 (layPd n rdy crs F Y p.1 p.2 + 1)) (upf Y p.1 (layPd n rdy crs F Y p.1 p.2))
theorem sched_e {D : Int} {p : Nat × Nat} {l : List (Nat × Nat)} {F Y : Nat → Int} : sched n rdy crs D (p :: l) F Y = (p.1 < n ∧ p.2 < 6 ∧ Y p.1 = -1 ∧ layPd n rdy crs F Y p.1 p.2 ≠ -1 ∧ layPd n rdy crs F Y p.1 p.2 ≤ D ∧ sched n rdy crs D l (upf F p.2 (layPd n rdy crs F Y p.1 p.2 + 1)) (upf Y p.1 (layPd n rdy crs F Y p.1 p.2))) := rfl
theorem sched_mono {D D' : Int} (hD : D ≤ D') : ∀ (l : List (Nat × Nat)) (F Y : Nat → Int), sched n rdy crs D l F Y → sched n rdy crs D' l F Y
  | [], _, _, _ => trivial
  | p :: l, F, Y, h => by
    rw [sched_e] at h ⊢
    obtain ⟨h1, h2, h3, h4, h5, h6⟩ := h
    exact ⟨h1, h2, h3, h4, by omega, sched_mono hD l _ _ h6⟩
/-- two stones of one course and of two gangs may change places -/
theorem sched_swap {D : Int} {p q : Nat × Nat} {l : List (Nat × Nat)} {F Y : Nat → Int} (h : sched n rdy crs D (p :: q :: l) F Y) (hc : crs p.1 = crs q.1) (hg : p.2 ≠ q.2) : sched n rdy crs D (q :: p :: l) F Y := by
  rw [sched_e, sched_e] at h
  obtain ⟨h1, h2, h3, h4, h5, k1, k2, k3, k4, k5, k6⟩ := h
  have hne : p.1 ≠ q.1 := by
    intro e
    rw [← e, upf_same] at k3
    exact h4 k3
  have e1 : ∀ d, layPd n rdy crs (upf F p.2 d) (upf Y p.1 (layPd n rdy crs F Y p.1 p.2)) q.1 q.2 = layPd n rdy crs F Y q.1 q.2 := by
    intro d
    unfold layPd
    rw [upf_ne (fun e => hg e.symm)]
    refine layTo_cong n (fun j hj hcj => ?_)
    rw [upf_ne (by intro e; rw [e] at hcj; omega)]
  have e2 : ∀ d, layPd n rdy crs (upf F q.2 d) (upf Y q.1 (layPd n rdy crs F Y q.1 q.2)) p.1 p.2 = layPd n rdy crs F Y p.1 p.2 := by
    intro d
    unfold layPd
    rw [upf_ne hg]
    refine layTo_cong n (fun j hj hcj => ?_)
    rw [upf_ne (by intro e; rw [e] at hcj; omega)]
  rw [e1] at k4 k5 k6
  rw [upf_ne (fun e => hne e.symm)] at k3
  rw [sched_e, sched_e]
  refine ⟨k1, k2, k3, k4, k5, h1, h2, ?_, ?_⟩
  · rw [upf_ne hne]; exact h3
  · rw [e2]
    refine ⟨h4, h5, ?_⟩
    have f1 : ∀ (F : Nat → Int) (i j : Nat) (a b : Int), i ≠ j → upf (upf F i a) j b = upf (upf F j b) i a := by
      intro F i j a b hij
      funext k
      unfold upf
      by_cases c1 : k = j
      · subst c1
        rw [if_pos rfl, if_neg (fun e => hij e.symm), if_pos rfl]
      · rw [if_neg c1]
        by_cases c2 : k = i
        · rw [if_pos c2, if_pos c2]
        · rw [if_neg c2, if_neg c2, if_neg c1]
    rw [f1 F q.2 p.2 _ _ (fun e => hg e.symm), f1 Y q.1 p.1 _ _ (fun e => hne e.symm)]
    exact k6
/-- within a course the gangs' numbers don't go down -/
def canon (crs : Nat → Int) : Int → Nat → List (Nat × Nat) → Prop
  | _, _, [] => True
  | c, g, p :: l => (crs p.1 = c → g ≤ p.2) ∧ canon crs (crs p.1) p.2 l
def canonT (crs : Nat → Int) : List (Nat × Nat) → Prop
  | [] => True
  | p :: l => canon crs (crs p.1) p.2 l
theorem canon_T {c : Int} {g : Nat} : ∀ l : List (Nat × Nat), canon crs c g l → canonT crs l
  | [], _ => trivial
  | _ :: _, h => h.2
theorem canon_ins {D : Int} {p : Nat × Nat} : ∀ (t : List (Nat × Nat)) (F Y : Nat → Int), sched n rdy crs D (p :: t) F Y → canonT crs t → ∃ t', t'.length = t.length + 1 ∧ sched n rdy crs D t' F Y ∧ canonT crs t' ∧ ∃ r u, t' = r :: u ∧ (r = p ∨ ∃ v, t = r :: v)
  | [], F, Y, h, _ => ⟨[p], rfl, h, trivial, p, [], rfl, Or.inl rfl⟩
  | q :: u, F, Y, h, hc => by
    by_cases c : crs p.1 = crs q.1 ∧ q.2 < p.2
    · have h2 := sched_swap h c.1 (by omega)
      rw [sched_e] at h2
      obtain ⟨k1, k2, k3, k4, k5, k6⟩ := h2
      have hcu : canon crs (crs q.1) q.2 u := hc
      obtain ⟨t', t1, t2, t3, r, w, t4, t5⟩ := canon_ins u _ _ k6 (canon_T u hcu)
      refine ⟨q :: t', by rw [List.length_cons, t1, List.length_cons], ?_, ?_, q, t', rfl, Or.inr ⟨u, rfl⟩⟩
      · rw [sched_e]
        exact ⟨k1, k2, k3, k4, k5, t2⟩
      · subst t4
        show canon crs (crs q.1) q.2 (r :: w)
        refine ⟨?_, t3⟩
        rcases t5 with t5 | ⟨v, t5⟩
        · rw [t5]; intro _; omega
        · subst t5; exact hcu.1
    · refine ⟨p :: q :: u, rfl, h, ?_, p, q :: u, rfl, Or.inl rfl⟩
      show canon crs (crs p.1) p.2 (q :: u)
      refine ⟨fun e => ?_, hc⟩
      by_cases c2 : q.2 < p.2
      · exact absurd ⟨e.symm, c2⟩ c
      · omega
theorem canon_ex {D : Int} : ∀ (l : List (Nat × Nat)) (F Y : Nat → Int), sched n rdy crs D l F Y → ∃ l', l'.length = l.length ∧ sched n rdy crs D l' F Y ∧ canonT crs l'
  | [], F, Y, h => ⟨[], rfl, h, trivial⟩
  | p :: t, F, Y, h => by
    rw [sched_e] at h
    obtain ⟨k1, k2, k3, k4, k5, k6⟩ := h
    obtain ⟨t', t1, t2, t3⟩ := canon_ex t _ _ k6
    have h2 : sched n rdy crs D (p :: t') F Y := by
      rw [sched_e]
      exact ⟨k1, k2, k3, k4, k5, t2⟩
    obtain ⟨l', l1, l2, l3, -⟩ := canon_ins t' F Y h2 t3
    exact ⟨l', by rw [l1, t1, List.length_cons], l2, l3⟩
/-- a gang is never free ahead of its start, and a stone never laid ahead of its ready day: the floor -/
theorem sched_floor {D : Int} {now : Int} (hmono : ∀ i g a b, i < n → g < 6 → now ≤ a → a ≤ b → rdy i g b ≠ -1 → rdy i g a ≠ -1 ∧ rdy i g a ≤ rdy i g b) (hge : ∀ i g a, -1 ≤ rdy i g a) (hdl : ∀ i g a, rdy i g a ≠ -1 → a ≤ rdy i g a) : ∀ (l : List (Nat × Nat)) (F Y : Nat → Int), (∀ j, -1 ≤ Y j) → (∀ g, g < 6 → now ≤ F g) → sched n rdy crs D l F Y → ∀ p ∈ l, ∃ g, g < 6 ∧ rdy p.1 g now ≠ -1 ∧ rdy p.1 g now ≤ D
  | [], F, Y, _, _, _, p, hp => absurd hp List.not_mem_nil
  | q :: l, F, Y, hY, hF, h, p, hp => by
    rw [sched_e] at h
    obtain ⟨h1, h2, h3, h4, h5, h6⟩ := h
    have hc := layTo_c (crs := crs) (i := q.1) (hge q.1 q.2 (F q.2)) n (fun j _ => hY j)
    have hl : layPd n rdy crs F Y q.1 q.2 = layTo crs Y q.1 n (rdy q.1 q.2 (F q.2)) := rfl
    rw [← hl] at hc
    rcases hc with ⟨c1, -⟩ | ⟨c1, c2, c3, c4, -⟩
    · exact absurd c1 h4
    rcases List.mem_cons.mp hp with e | e
    · subst e
      have hm := hmono p.1 p.2 now (F p.2) h1 h2 (Int.le_refl now) (hF p.2 h2) c2
      exact ⟨p.2, h2, hm.1, by omega⟩
    · refine sched_floor hmono hge hdl l _ _ (fun j => ?_) (fun g hg => ?_) h6 p e
      · unfold upf
        split
        · have := hge q.1 q.2 (F q.2); omega
        · exact hY j
      · unfold upf
        split
        · have := hdl q.1 q.2 (F q.2) c2
          have := hF q.2 h2
          omega
        · exact hF g hg
end PLANCORE
