/-! THE PLAN, the class: the first order and its gangs -/
def plz (O B : Nat → Nat) (a : Nat) : Nat → List (Nat × Nat)
  | 0 => []
  | d + 1 => (O a, B a) :: plz O B (a + 1) d
theorem plz_e (O B : Nat → Nat) (a d : Nat) : plz O B a (d + 1) = (O a, B a) :: plz O B (a + 1) d := rfl
theorem plz_cong {O B O' B' : Nat → Nat} : ∀ (d a : Nat), (∀ k, a ≤ k → k < a + d → O k = O' k ∧ B k = B' k) → plz O B a d = plz O' B' a d
  | 0, a, _ => rfl
  | d + 1, a, h => by
    rw [plz_e, plz_e, (h a (Nat.le_refl a) (by omega)).1, (h a (Nat.le_refl a) (by omega)).2, plz_cong d (a + 1) (fun k k1 k2 => h k (by omega) (by omega))]
def upN (B : Nat → Nat) (k v : Nat) : Nat → Nat := fun j => if j = k then v else B j
theorem upN_same {B : Nat → Nat} {k v : Nat} : upN B k v k = v := if_pos rfl
theorem upN_ne {B : Nat → Nat} {k v j : Nat} (h : j ≠ k) : upN B k v j = B j := if_neg h
section PS
variable {n : Nat} {rdy : Nat → Nat → Int → Int} {crs : Nat → Int} {μ : Mem}
def tellC (n : Nat) (rdy : Nat → Nat → Int → Int) (crs : Nat → Int) (κ : Mem) : List (Nat × Nat) → (Nat → Int) → (Nat → Int) → Prop
  | [], _, _ => True
  | p :: l, F, Y => (κ 27 p.1 = (p.2 : Int) ∧ κ 28 p.1 = F p.2 ∧ κ 29 p.1 = layPd n rdy crs F Y p.1 p.2) ∧ tellC n rdy crs κ l (upf F p.2 (layPd n rdy crs F Y p.1 p.2 + 1)) (upf Y p.1 (layPd n rdy crs F Y p.1 p.2))
theorem sched_pos (hrb : ∀ i g x, -1 ≤ rdy i g x ∧ rdy i g x ≤ 3000) {D : Int} {O B : Nat → Nat} : ∀ (d a : Nat) (F Y : Nat → Int), (∀ j, j < n → -1 ≤ Y j) → sched n rdy crs D (plz O B a d) F Y → ∀ k, a ≤ k → k < a + d → O k < n ∧ Y (O k) = -1 ∧ (∀ j, a ≤ j → j < k → O j ≠ O k) ∧ (∀ j, j < n → crs j < crs (O k) → Y j ≠ -1 ∨ ∃ m, a ≤ m ∧ m < k ∧ O m = j)
  | 0, a, F, Y, _, _, k, h1, h2 => by omega
  | d + 1, a, F, Y, hY, h, k, h1, h2 => by
    rw [plz_e, sched_e] at h
    obtain ⟨x1, x2, x3, x4, x5, x6⟩ := h
    by_cases e : k = a
    · subst e
      exact ⟨x1, x3, fun j j1 j2 => by omega, fun j hj hc => Or.inl (lay_ge hrb hY x4 j hj hc)⟩
    · have hlb := lay_b (n := n) (rdy := rdy) (crs := crs) (F := F) (Y := Y) (i := O a) (g := B a) hrb hY
      obtain ⟨y1, y2, y3, y4⟩ := sched_pos hrb d (a + 1) _ _ (fun j hj => by
        by_cases ej : j = O a
        · subst ej; rw [upf_same]; exact hlb.1
        · rw [upf_ne ej]; exact hY j hj) x6 k (by omega) (by omega)
      have hne : O a ≠ O k := by
        intro z
        rw [← z, upf_same] at y2
        exact x4 y2
      rw [upf_ne (fun z => hne z.symm)] at y2
      refine ⟨y1, y2, fun j j1 j2 => ?_, fun j hj hc => ?_⟩
      · by_cases ej : j = a
        · rw [ej]; exact hne
        · exact y3 j (by omega) j2
      · rcases y4 j hj hc with z | ⟨m, m1, m2, m3⟩
        · by_cases ej : j = O a
          · exact Or.inr ⟨a, Nat.le_refl a, by omega, ej.symm⟩
          · rw [upf_ne ej] at z
            exact Or.inl z
        · exact Or.inr ⟨m, by omega, m2, m3⟩
/-- nothing but the search's own rows has changed -/
def GSq (μ κ0 κ : Mem) : Prop := fS μ κ ∧ κ 7 14 = κ0 7 14 ∧ κ 26 = κ0 26 ∧ (∀ j, κ0 29 j ≠ -1 → κ 27 j = κ0 27 j ∧ κ 28 j = κ0 28 j ∧ κ 29 j = κ0 29 j)
theorem e_seekGangs (hS : Sr n rdy crs μ) {O : Nat → Nat} (hO : ∀ k, k < n → O k < n) (hinj : ∀ j k, j < k → k < n → O j ≠ O k) : ∀ (d fuel depth : Nat) (κ : Mem), d < fuel → depth + d = n → fS μ κ → bndS n κ → (∀ k, k < n → κ 26 k = (O k : Int)) → (∀ k, depth ≤ k → k < n → κ 29 (O k) = -1) → κ 7 14 ≤ 3000 → ∃ r κ', f_X1_seekGangs fuel κ (depth : Int) = some (r, κ') ∧ GSq μ κ κ' ∧ ((r = 0 ∧ κ' 29 = κ 29 ∧ κ' 30 = κ 30 ∧ ∀ B, ¬ sched n rdy crs (κ 7 14) (plz O B depth d) (κ 30) (κ 29)) ∨ (r = 1 ∧ ∃ B, sched n rdy crs (κ 7 14) (plz O B depth d) (κ 30) (κ 29) ∧ tellC n rdy crs κ' (plz O B depth d) (κ 30) (κ 29) ∧ ∀ B' k, sched n rdy crs (κ 7 14) (plz O B' depth d) (κ 30) (κ 29) → depth ≤ k → k < n → (∀ j, depth ≤ j → j < k → B' j = B j) → B k ≤ B' k)) := by
  obtain ⟨⟨hn1, hn2, hn3⟩, hrb, hlay, hmay, htak⟩ := hS
  intro d
  induction d with
  | zero =>
    intro fuel depth κ h1 h2 h3 h4 h5 h6 h7
    obtain ⟨fuel, rfl⟩ : ∃ m, fuel = m + 1 := ⟨fuel - 1, by omega⟩
    have h75 : κ 7 5 = (n : Int) := by rw [h3.2 5 (by decide)]; exact hn1
    refine ⟨1, κ, ?_, ⟨h3, rfl, rfl, fun _ _ => ⟨rfl, rfl, rfl⟩⟩, Or.inr ⟨rfl, fun _ => 0, trivial, trivial, fun B' k _ k1 k2 => by omega⟩⟩
    rw [f_X1_seekGangs_e, if_neg (by omega)]
  | succ d ih =>
    intro fuel depth κ h1 h2 h3 h4 h5 h6 h7
    obtain ⟨fuel, rfl⟩ : ∃ m, fuel = m + 1 := ⟨fuel - 1, by omega⟩
    have h75 : κ 7 5 = (n : Int) := by rw [h3.2 5 (by decide)]; exact hn1
    have hY : ∀ j, j < n → -1 ≤ κ 29 j := h4.2.1
    have hi := hO depth (by omega)
    have hYi := h6 depth (Nat.le_refl _) (by omega)
    have loop : ∀ (e m g : Nat) (κc : Mem), g + e = 6 → e < m → GSq μ κ κc → κc 29 = κ 29 → κc 30 = κ 30 → (∀ B, B depth < g → ¬ sched n rdy crs (κ 7 14) (plz O B depth (d + 1)) (κ 30) (κ 29)) → ∃ r κ', f_X1_seekGangs_19 (f_X1_seekGangs fuel) m (depth : Int) (O depth : Int) (g : Int) κc = some (r, κ') ∧ GSq μ κ κ' ∧ ((r = 0 ∧ κ' 29 = κ 29 ∧ κ' 30 = κ 30 ∧ ∀ B, ¬ sched n rdy crs (κ 7 14) (plz O B depth (d + 1)) (κ 30) (κ 29)) ∨ (r = 1 ∧ ∃ B, sched n rdy crs (κ 7 14) (plz O B depth (d + 1)) (κ 30) (κ 29) ∧ tellC n rdy crs κ' (plz O B depth (d + 1)) (κ 30) (κ 29) ∧ ∀ B' k, sched n rdy crs (κ 7 14) (plz O B' depth (d + 1)) (κ 30) (κ 29) → depth ≤ k → k < n → (∀ j, depth ≤ j → j < k → B' j = B j) → B k ≤ B' k)) := by
      intro e
      induction e with
      | zero =>
        intro m g κc e1 e2 e3 e4 e5 e6
        obtain ⟨m, rfl⟩ : ∃ z, m = z + 1 := ⟨m - 1, by omega⟩
        refine ⟨0, κc, ?_, e3, Or.inl ⟨rfl, e4, e5, fun B hB => ?_⟩⟩
        · rw [f_X1_seekGangs_19_e, if_pos (by omega)]
        · refine e6 B ?_ hB
          rw [plz_e, sched_e] at hB
          have := hB.2.1
          have e : (O depth, B depth).2 = B depth := rfl
          omega
      | succ e ih2 =>
        intro m g κc e1 e2 e3 e4 e5 e6
        obtain ⟨m, rfl⟩ : ∃ z, m = z + 1 := ⟨m - 1, by omega⟩
        obtain ⟨l1, l2, l3, l4⟩ := e3
        have hbc : bndS n κc := by unfold bndS; rw [e4, e5]; exact h4
        have hld := hlay κc l1 hbc (O depth) g hi (by omega)
        rw [e4, e5] at hld
        have hdb := lay_b (n := n) (rdy := rdy) (crs := crs) (F := κ 30) (Y := κ 29) (i := O depth) (g := g) hrb hY
        have nxt : (∀ B, B depth = g → ¬ sched n rdy crs (κ 7 14) (plz O B depth (d + 1)) (κ 30) (κ 29)) → ∀ κd, GSq μ κ κd → κd 29 = κ 29 → κd 30 = κ 30 → ∃ r κ', f_X1_seekGangs_19 (f_X1_seekGangs fuel) m (depth : Int) (O depth : Int) ((g : Int) + 1) κd = some (r, κ') ∧ GSq μ κ κ' ∧ ((r = 0 ∧ κ' 29 = κ 29 ∧ κ' 30 = κ 30 ∧ ∀ B, ¬ sched n rdy crs (κ 7 14) (plz O B depth (d + 1)) (κ 30) (κ 29)) ∨ (r = 1 ∧ ∃ B, sched n rdy crs (κ 7 14) (plz O B depth (d + 1)) (κ 30) (κ 29) ∧ tellC n rdy crs κ' (plz O B depth (d + 1)) (κ 30) (κ 29) ∧ ∀ B' k, sched n rdy crs (κ 7 14) (plz O B' depth (d + 1)) (κ 30) (κ 29) → depth ≤ k → k < n → (∀ j, depth ≤ j → j < k → B' j = B j) → B k ≤ B' k)) := by
          intro hno κd q1 q2 q3
          rw [show (g : Int) + 1 = ((g + 1 : Nat) : Int) by omega]
          refine ih2 m (g + 1) κd (by omega) (by omega) q1 q2 q3 (fun B hB => ?_)
          by_cases eb : B depth = g
          · exact hno B eb
          · exact e6 B (by omega)
        generalize hday : layPd n rdy crs (κ 30) (κ 29) (O depth) g = day at hld hdb
        have hpd : ∀ B : Nat → Nat, B depth = g → layPd n rdy crs (κ 30) (κ 29) (O depth, B depth).1 (O depth, B depth).2 = day := fun B hB => by
          show layPd n rdy crs (κ 30) (κ 29) (O depth) (B depth) = day
          rw [hB]; exact hday
        rw [f_X1_seekGangs_19_e, if_neg (by omega), hld, bd_some]
        by_cases c1 : day = -1
        · rw [if_pos c1, if_pos (by omega)]
          refine nxt (fun B hB hs => ?_) κc ⟨l1, l2, l3, l4⟩ e4 e5
          rw [plz_e, sched_e, hpd B hB] at hs
          exact hs.2.2.2.1 c1
        rw [if_neg c1, l2]
        by_cases c2 : day ≤ κ 7 14
        case neg =>
          rw [if_neg c2, if_pos (by omega)]
          refine nxt (fun B hB hs => ?_) κc ⟨l1, l2, l3, l4⟩ e4 e5
          rw [plz_e, sched_e, hpd B hB] at hs
          exact c2 hs.2.2.2.2.1
        rw [if_pos c2]
        let κ1 : Mem := up (up (up (up κc 27 (O depth) (g : Int)) 28 (O depth) (κc 30 g)) 29 (O depth) day) 30 g (day + 1)
        have hκ1 : κ1 = up (up (up (up κc 27 (O depth) (g : Int)) 28 (O depth) (κc 30 g)) 29 (O depth) day) 30 g (day + 1) := rfl
        have hpl : f_X1_place κc (O depth : Int) (g : Int) day = some (0, κ1) := by
          unfold f_X1_place
          rw [if_pos (by omega), lm_e, if_pos (by omega)]
          simp only [Int.toNat_natCast]
          rw [lm_e, lm_e, if_pos (by omega), lm_e, hκ1]
          simp (disch := omega) only [bd_some, lm_e, if_pos, if_neg, up_ne, up_at, upf_same, upf_ne, reduceIte, or_true, true_or, Int.reduceToNat, Int.toNat_natCast, tn100, tn200]
        have k129 : κ1 29 = upf (κ 29) (O depth) day := by rw [hκ1]; simp (disch := omega) only [bd_some, lm_e, if_pos, if_neg, up_ne, up_at, upf_same, upf_ne, reduceIte, or_true, true_or, Int.reduceToNat, Int.toNat_natCast, tn100, tn200]; rw [e4]
        have k130 : κ1 30 = upf (κ 30) g (day + 1) := by rw [hκ1]; simp (disch := omega) only [bd_some, lm_e, if_pos, if_neg, up_ne, up_at, upf_same, upf_ne, reduceIte, or_true, true_or, Int.reduceToNat, Int.toNat_natCast, tn100, tn200]; rw [e5]
        have f1 : fS κc κ1 := ⟨fun a a1 a2 a3 a4 a5 a6 => by rw [hκ1]; simp (disch := omega) only [bd_some, lm_e, if_pos, if_neg, up_ne, up_at, upf_same, upf_ne, reduceIte, or_true, true_or, Int.reduceToNat, Int.toNat_natCast, tn100, tn200], fun j hj => by rw [hκ1]; simp (disch := omega) only [bd_some, lm_e, if_pos, if_neg, up_ne, up_at, upf_same, upf_ne, reduceIte, or_true, true_or, Int.reduceToNat, Int.toNat_natCast, tn100, tn200]⟩
        have k14 : κ1 7 14 = κ 7 14 := by rw [hκ1]; simp (disch := omega) only [bd_some, lm_e, if_pos, if_neg, up_ne, up_at, upf_same, upf_ne, reduceIte, or_true, true_or, Int.reduceToNat, Int.toNat_natCast, tn100, tn200]; exact l2
        have k126 : κ1 26 = κ 26 := by rw [hκ1]; simp (disch := omega) only [bd_some, lm_e, if_pos, if_neg, up_ne, up_at, upf_same, upf_ne, reduceIte, or_true, true_or, Int.reduceToNat, Int.toNat_natCast, tn100, tn200]; exact l3
        obtain ⟨r, κ2, r1, r2, r3⟩ := ih fuel (depth + 1) κ1 (by omega) (by omega) (fS_tr l1 f1) ⟨fun g' hg' => by
          rw [k130]
          by_cases eg : g' = g
          · subst eg; rw [upf_same]; omega
          · rw [upf_ne eg]; exact h4.1 g' hg', fun j hj => by
          rw [k129]
          by_cases ej : j = O depth
          · subst ej; rw [upf_same]; omega
          · rw [upf_ne ej]; exact hY j hj, fun j hj => by
          rw [k129]
          by_cases ej : j = O depth
          · subst ej; rw [upf_same]; omega
          · rw [upf_ne ej]; exact h4.2.2 j hj⟩ (fun k hk => by rw [k126]; exact h5 k hk) (fun k k1 k2 => by
          rw [k129, upf_ne (fun z => hinj depth k (by omega) k2 z.symm)]
          exact h6 k (by omega) k2) (by rw [k14]; exact h7)
        rw [k14, k129, k130] at r3
        obtain ⟨w1, w2, w3, w4⟩ := r2
        rw [hpl, bd_some, if_pos (by omega), show (depth : Int) + 1 = ((depth + 1 : Nat) : Int) by omega, r1, bd_some]
        have hpl4 : ∀ j, κ 29 j ≠ -1 → κ2 27 j = κ 27 j ∧ κ2 28 j = κ 28 j ∧ κ2 29 j = κ 29 j := by
          intro j hj
          have ej : j ≠ O depth := fun z => hj (by rw [z]; exact hYi)
          have q := w4 j (by rw [k129, upf_ne ej]; exact hj)
          have a27 : κ1 27 j = κc 27 j := by rw [hκ1]; simp (disch := omega) only [bd_some, lm_e, if_pos, if_neg, up_ne, up_at, upf_same, upf_ne, reduceIte, or_true, true_or, Int.reduceToNat, Int.toNat_natCast, tn100, tn200]
          have a28 : κ1 28 j = κc 28 j := by rw [hκ1]; simp (disch := omega) only [bd_some, lm_e, if_pos, if_neg, up_ne, up_at, upf_same, upf_ne, reduceIte, or_true, true_or, Int.reduceToNat, Int.toNat_natCast, tn100, tn200]
          have q2 := l4 j hj
          rw [a27, a28, k129, upf_ne ej] at q
          exact ⟨q.1.trans q2.1, q.2.1.trans q2.2.1, q.2.2⟩
        rcases r3 with ⟨r0, r4, r5, r6⟩ | ⟨r0, B, r4, r5, r6⟩
        · -- back
          rw [if_pos r0]
          have e28 : κ2 28 (O depth) = κ 30 g := by
            rw [(w4 (O depth) (by rw [k129, upf_same]; exact c1)).2.1, hκ1]
            simp (disch := omega) only [bd_some, lm_e, if_pos, if_neg, up_ne, up_at, upf_same, upf_ne, reduceIte, or_true, true_or, Int.reduceToNat, Int.toNat_natCast, tn100, tn200]
            rw [e5]
          have htb : f_X1_takeBack κ2 (O depth : Int) (g : Int) = some (0, up (up κ2 30 g (κ 30 g)) 29 (O depth) (-1)) := by
            unfold f_X1_takeBack
            rw [if_pos (by omega), if_pos (by omega)]
            simp only [Int.toNat_natCast]
            rw [lm_e, lm_e, e28]
          rw [htb, bd_some, if_pos (by omega)]
          have k329 : up (up κ2 30 g (κ 30 g)) 29 (O depth) (-1) 29 = κ 29 := by
            simp (disch := omega) only [bd_some, lm_e, if_pos, if_neg, up_ne, up_at, upf_same, upf_ne, reduceIte, or_true, true_or, Int.reduceToNat, Int.toNat_natCast, tn100, tn200]
            rw [r4, ← hYi, upf_back]
          have k330 : up (up κ2 30 g (κ 30 g)) 29 (O depth) (-1) 30 = κ 30 := by
            simp (disch := omega) only [bd_some, lm_e, if_pos, if_neg, up_ne, up_at, upf_same, upf_ne, reduceIte, or_true, true_or, Int.reduceToNat, Int.toNat_natCast, tn100, tn200]
            rw [r5, upf_back]
          refine nxt (fun B hB hs => ?_) _ ⟨fS_tr w1 ⟨fun a a1 a2 a3 a4 a5 a6 => by simp (disch := omega) only [bd_some, lm_e, if_pos, if_neg, up_ne, up_at, upf_same, upf_ne, reduceIte, or_true, true_or, Int.reduceToNat, Int.toNat_natCast, tn100, tn200], fun j hj => by simp (disch := omega) only [bd_some, lm_e, if_pos, if_neg, up_ne, up_at, upf_same, upf_ne, reduceIte, or_true, true_or, Int.reduceToNat, Int.toNat_natCast, tn100, tn200]⟩, by simp (disch := omega) only [bd_some, lm_e, if_pos, if_neg, up_ne, up_at, upf_same, upf_ne, reduceIte, or_true, true_or, Int.reduceToNat, Int.toNat_natCast, tn100, tn200]; exact w2.trans k14, by simp (disch := omega) only [bd_some, lm_e, if_pos, if_neg, up_ne, up_at, upf_same, upf_ne, reduceIte, or_true, true_or, Int.reduceToNat, Int.toNat_natCast, tn100, tn200]; exact w3.trans k126, fun j hj => ?_⟩ k329 k330
          · rw [plz_e, sched_e, hpd B hB] at hs
            refine r6 B ?_
            have := hs.2.2.2.2.2
            rw [show (O depth, B depth).2 = g from hB] at this
            exact this
          · have q := hpl4 j hj
            have ej : j ≠ O depth := fun z => hj (by rw [z]; exact hYi)
            simp (disch := omega) only [bd_some, lm_e, if_pos, if_neg, up_ne, up_at, upf_same, upf_ne, reduceIte, or_true, true_or, Int.reduceToNat, Int.toNat_natCast, tn100, tn200]
            exact q
        · -- found
          refine ⟨1, κ2, by rw [if_neg (by omega)], ⟨w1, w2.trans k14, w3.trans k126, hpl4⟩, Or.inr ⟨rfl, upN B depth g, ?_, ?_, fun B' k hs k1 k2 k3 => ?_⟩⟩
          · have ep : plz O (upN B depth g) (depth + 1) d = plz O B (depth + 1) d := plz_cong d (depth + 1) (fun k k1 _ => ⟨rfl, upN_ne (by omega)⟩)
            rw [plz_e, sched_e, ep, hpd _ upN_same]
            refine ⟨hi, ?_, hYi, c1, c2, ?_⟩
            · show upN B depth g depth < 6
              rw [upN_same]; omega
            · rw [show (O depth, upN B depth g depth).2 = g from upN_same]
              exact r4
          · have ep : plz O (upN B depth g) (depth + 1) d = plz O B (depth + 1) d := plz_cong d (depth + 1) (fun k k1 _ => ⟨rfl, upN_ne (by omega)⟩)
            have hg' : upN B depth g depth = g := upN_same
            have q := w4 (O depth) (by rw [k129, upf_same]; exact c1)
            rw [k129, upf_same] at q
            have a27 : κ1 27 (O depth) = (g : Int) := by rw [hκ1]; simp (disch := omega) only [bd_some, lm_e, if_pos, if_neg, up_ne, up_at, upf_same, upf_ne, reduceIte, or_true, true_or, Int.reduceToNat, Int.toNat_natCast, tn100, tn200]
            have a28 : κ1 28 (O depth) = κ 30 g := by rw [hκ1]; simp (disch := omega) only [bd_some, lm_e, if_pos, if_neg, up_ne, up_at, upf_same, upf_ne, reduceIte, or_true, true_or, Int.reduceToNat, Int.toNat_natCast, tn100, tn200]; rw [e5]
            rw [a27, a28] at q
            rw [plz_e]
            refine ⟨⟨?_, ?_, ?_⟩, ?_⟩
            · show κ2 27 (O depth) = _
              rw [q.1]
              exact (congrArg (fun z : Nat => (z : Int)) hg').symm
            · show κ2 28 (O depth) = κ 30 (upN B depth g depth)
              rw [hg']; exact q.2.1
            · rw [hpd _ hg']; exact q.2.2
            · rw [ep, hpd _ hg', show (O depth, upN B depth g depth).2 = g from hg']
              exact r5
          · show upN B depth g k ≤ B' k
            have hb : g ≤ B' depth := by
              by_cases z : g ≤ B' depth
              · exact z
              · exact absurd hs (e6 B' (by omega))
            by_cases ek : k = depth
            · rw [ek, upN_same]; exact hb
            · rw [upN_ne ek]
              have hbd : B' depth = g := by
                have := k3 depth (Nat.le_refl _) (by omega)
                rw [upN_same] at this
                exact this
              rw [plz_e, sched_e, hpd B' hbd] at hs
              have hs2 := hs.2.2.2.2.2
              rw [show (O depth, B' depth).2 = g from hbd] at hs2
              refine r6 B' k hs2 (by omega) k2 (fun j j1 j2 => ?_)
              have := k3 j (by omega) j2
              rw [upN_ne (show j ≠ depth by omega)] at this
              exact this
    obtain ⟨r, κ', q1, q2⟩ := loop 6 64 0 κ rfl (by decide) ⟨h3, rfl, rfl, fun _ _ => ⟨rfl, rfl, rfl⟩⟩ rfl rfl (fun B hB => by omega)
    rw [show ((0 : Nat) : Int) = 0 from rfl] at q1
    refine ⟨r, κ', ?_, q2⟩
    rw [f_X1_seekGangs_e, if_pos (by omega), if_pos (by omega), Int.toNat_natCast, h5 depth (by omega), q1]
theorem e_seekOrder (hS : Sr n rdy crs μ) : ∀ (d fuel depth : Nat) (w : Int) (O : Nat → Nat) (κ : Mem), d < fuel → depth + d = n → fS μ κ → bndS n κ → (∀ j, j < n → κ 29 j = -1) → (∀ k, k < depth → κ 26 k = (O k : Int) ∧ O k < n) → (∀ j k, j < k → k < depth → O j ≠ O k) → (0 ≤ w ∧ w < 2147483648) → (∀ j, j < n → (mskP w j ↔ ∃ k, k < depth ∧ O k = j)) → κ 7 14 ≤ 3000 → ∃ r κ', f_X1_seekOrder fuel κ (depth : Int) w = some (r, κ') ∧ fS μ κ' ∧ κ' 7 14 = κ 7 14 ∧ ((r = 0 ∧ κ' 29 = κ 29 ∧ κ' 30 = κ 30 ∧ (∀ k, k < depth → κ' 26 k = κ 26 k) ∧ ∀ O' B, (∀ k, k < depth → O' k = O k) → ¬ sched n rdy crs (κ 7 14) (plz O' B 0 n) (κ 30) (κ 29)) ∨ (r = 1 ∧ ∃ O' B, (∀ k, k < depth → O' k = O k) ∧ (∀ k, k < n → κ' 26 k = (O' k : Int) ∧ O' k < n) ∧ sched n rdy crs (κ 7 14) (plz O' B 0 n) (κ 30) (κ 29) ∧ tellC n rdy crs κ' (plz O' B 0 n) (κ 30) (κ 29) ∧ (∀ B' k, sched n rdy crs (κ 7 14) (plz O' B' 0 n) (κ 30) (κ 29) → k < n → (∀ j, j < k → B' j = B j) → B k ≤ B' k) ∧ (∀ O'' B'' k, sched n rdy crs (κ 7 14) (plz O'' B'' 0 n) (κ 30) (κ 29) → (∀ j, j < k → O'' j = O' j) → depth ≤ k → k < n → O' k ≤ O'' k))) := by
  have hS0 := hS
  obtain ⟨⟨hn1, hn2, hn3⟩, hrb, hlay, hmay, htak⟩ := hS
  intro d
  induction d with
  | zero =>
    intro fuel depth w O κ h1 h2 h3 h4 h5 h6 h7 h8 h9 h10
    obtain ⟨fuel, rfl⟩ : ∃ m, fuel = m + 1 := ⟨fuel - 1, by omega⟩
    have h75 : κ 7 5 = (n : Int) := by rw [h3.2 5 (by decide)]; exact hn1
    have hdn : depth = n := by omega
    subst hdn
    obtain ⟨r, κ', q1, q2, q3⟩ := e_seekGangs hS0 (fun k hk => (h6 k hk).2) h7 depth 8 0 κ (by omega) (by omega) h3 h4 (fun k hk => (h6 k hk).1) (fun k _ hk => h5 _ (h6 k hk).2) h10
    rw [show ((0 : Nat) : Int) = 0 from rfl] at q1
    have er : r = 0 ∨ r = 1 := by
      rcases q3 with q | q
      · exact Or.inl q.1
      · exact Or.inr q.1
    refine ⟨r, κ', ?_, q2.1, q2.2.1, ?_⟩
    · rw [f_X1_seekOrder_e, if_neg (by omega), q1, bd_some, if_pos er]
    · rcases q3 with ⟨r0, x1, x2, x3⟩ | ⟨r0, B, x1, x2, x3⟩
      · refine Or.inl ⟨r0, x1, x2, fun k _ => by rw [q2.2.2.1], fun O' B ho hs => ?_⟩
        rw [plz_cong (O' := O) (B' := B) depth 0 (fun k _ hk => ⟨ho k (by omega), rfl⟩)] at hs
        exact x3 B hs
      · refine Or.inr ⟨r0, O, B, fun _ _ => rfl, fun k hk => by rw [q2.2.2.1]; exact h6 k hk, x1, x2, fun B' k hs hk hj => x3 B' k hs (Nat.zero_le _) hk (fun j _ hj2 => hj j hj2), fun O'' B'' k _ _ k1 k2 => by omega⟩
  | succ d ih =>
    intro fuel depth w O κ h1 h2 h3 h4 h5 h6 h7 h8 h9 h10
    obtain ⟨fuel, rfl⟩ : ∃ m, fuel = m + 1 := ⟨fuel - 1, by omega⟩
    have h75 : κ 7 5 = (n : Int) := by rw [h3.2 5 (by decide)]; exact hn1
    have loop : ∀ (e m i : Nat) (κc : Mem), i + e = n → e < m → fS μ κc → κc 7 14 = κ 7 14 → κc 29 = κ 29 → κc 30 = κ 30 → (∀ k, k < depth → κc 26 k = κ 26 k) → (∀ O' B, (∀ k, k < depth → O' k = O k) → O' depth < i → ¬ sched n rdy crs (κ 7 14) (plz O' B 0 n) (κ 30) (κ 29)) → ∃ r κ', f_X1_seekOrder_16 (f_X1_seekOrder fuel) m (depth : Int) w (i : Int) κc = some (r, κ') ∧ fS μ κ' ∧ κ' 7 14 = κ 7 14 ∧ ((r = 0 ∧ κ' 29 = κ 29 ∧ κ' 30 = κ 30 ∧ (∀ k, k < depth → κ' 26 k = κ 26 k) ∧ ∀ O' B, (∀ k, k < depth → O' k = O k) → ¬ sched n rdy crs (κ 7 14) (plz O' B 0 n) (κ 30) (κ 29)) ∨ (r = 1 ∧ ∃ O' B, (∀ k, k < depth → O' k = O k) ∧ (∀ k, k < n → κ' 26 k = (O' k : Int) ∧ O' k < n) ∧ sched n rdy crs (κ 7 14) (plz O' B 0 n) (κ 30) (κ 29) ∧ tellC n rdy crs κ' (plz O' B 0 n) (κ 30) (κ 29) ∧ (∀ B' k, sched n rdy crs (κ 7 14) (plz O' B' 0 n) (κ 30) (κ 29) → k < n → (∀ j, j < k → B' j = B j) → B k ≤ B' k) ∧ (∀ O'' B'' k, sched n rdy crs (κ 7 14) (plz O'' B'' 0 n) (κ 30) (κ 29) → (∀ j, j < k → O'' j = O' j) → depth ≤ k → k < n → O' k ≤ O'' k))) := by
      intro e
      induction e with
      | zero =>
        intro m i κc e1 e2 e3 e4 e5 e6 e7 e8
        obtain ⟨m, rfl⟩ : ∃ z, m = z + 1 := ⟨m - 1, by omega⟩
        have h75c : κc 7 5 = (n : Int) := by rw [e3.2 5 (by decide)]; exact hn1
        refine ⟨0, κc, ?_, e3, e4, Or.inl ⟨rfl, e5, e6, e7, fun O' B ho hs => ?_⟩⟩
        · rw [f_X1_seekOrder_16_e, if_pos (by omega)]
        · have := (sched_pos hrb n 0 _ _ h4.2.1 hs depth (Nat.zero_le _) (by omega)).1
          exact e8 O' B ho (by omega) hs
      | succ e ih2 =>
        intro m i κc e1 e2 e3 e4 e5 e6 e7 e8
        obtain ⟨m, rfl⟩ : ∃ z, m = z + 1 := ⟨m - 1, by omega⟩
        have h75c : κc 7 5 = (n : Int) := by rw [e3.2 5 (by decide)]; exact hn1
        rw [f_X1_seekOrder_16_e, if_neg (by omega), hmay κc e3 i w (by omega) h8.1 h8.2, bd_some]
        by_cases cm : ¬ mskP w i ∧ ∀ j, j < n → crs j < crs i → mskP w j
        case neg =>
          rw [b2i_f cm, if_pos rfl, if_pos (by omega), show (i : Int) + 1 = ((i + 1 : Nat) : Int) by omega]
          refine ih2 m (i + 1) κc (by omega) (by omega) e3 e4 e5 e6 e7 (fun O' B ho hoi hs => ?_)
          by_cases ei : O' depth = i
          · apply cm
            obtain ⟨y1, y2, y3, y4⟩ := sched_pos hrb n 0 _ _ h4.2.1 hs depth (Nat.zero_le _) (by omega)
            rw [ei] at y1 y3 y4
            refine ⟨fun z => ?_, fun j hj hc => ?_⟩
            · obtain ⟨k, k1, k2⟩ := (h9 i y1).mp z
              exact y3 k (Nat.zero_le _) k1 (by rw [ho k k1]; exact k2)
            · rcases y4 j hj hc with z | ⟨k, -, k2, k3⟩
              · exact absurd (h5 j hj) z
              · exact (h9 j hj).mpr ⟨k, k2, by rw [← ho k k2]; exact k3⟩
          · exact e8 O' B ho (by omega) hs
        rw [b2i_t cm, if_neg (by decide), if_pos (by omega), Int.toNat_natCast, lm_e, if_pos (by omega), show (depth : Int) + 1 = ((depth + 1 : Nat) : Int) by omega]
        obtain ⟨s1, s2, s3⟩ := msk_set h8.1 h8.2 (show i < 31 by omega)
        have hof : ∀ k, k < depth → upN O depth i k = O k := fun k hk => upN_ne (by omega)
        have hod : upN O depth i depth = i := upN_same
        obtain ⟨r, κ2, r1, r2, r3, r4⟩ := ih fuel (depth + 1) (zor w (zshl 1 (i : Int))) (upN O depth i) (up κc 26 depth (i : Int)) (by omega) (by omega) (fS_tr e3 ⟨fun a a1 a2 a3 a4 a5 a6 => by simp (disch := omega) only [bd_some, lm_e, if_pos, if_neg, up_ne, up_at, upf_same, upf_ne, reduceIte, or_true, true_or, Int.reduceToNat, Int.toNat_natCast, tn100, tn200], fun j hj => by simp (disch := omega) only [bd_some, lm_e, if_pos, if_neg, up_ne, up_at, upf_same, upf_ne, reduceIte, or_true, true_or, Int.reduceToNat, Int.toNat_natCast, tn100, tn200]⟩) (by unfold bndS; simp (disch := omega) only [bd_some, lm_e, if_pos, if_neg, up_ne, up_at, upf_same, upf_ne, reduceIte, or_true, true_or, Int.reduceToNat, Int.toNat_natCast, tn100, tn200]; rw [e5, e6]; exact h4) (by simp (disch := omega) only [bd_some, lm_e, if_pos, if_neg, up_ne, up_at, upf_same, upf_ne, reduceIte, or_true, true_or, Int.reduceToNat, Int.toNat_natCast, tn100, tn200]; rw [e5]; exact h5) (fun k hk => by
          by_cases ek : k = depth
          · subst ek
            rw [hod]
            simp (disch := omega) only [bd_some, lm_e, if_pos, if_neg, up_ne, up_at, upf_same, upf_ne, reduceIte, or_true, true_or, Int.reduceToNat, Int.toNat_natCast, tn100, tn200]
            exact ⟨trivial, by omega⟩
          · rw [hof k (by omega)]
            simp (disch := omega) only [bd_some, lm_e, if_pos, if_neg, up_ne, up_at, upf_same, upf_ne, reduceIte, or_true, true_or, Int.reduceToNat, Int.toNat_natCast, tn100, tn200]
            rw [e7 k (by omega)]
            exact h6 k (by omega)) (fun j k hjk hk => by
          by_cases ek : k = depth
          · rw [hof j (by omega), ek, hod]
            intro z
            exact cm.1 ((h9 i (by omega)).mpr ⟨j, by omega, z⟩)
          · rw [hof j (by omega), hof k (by omega)]
            exact h7 j k hjk (by omega)) ⟨s1, s2⟩ (fun j hj => by
          rw [s3 j, h9 j hj]
          constructor
          · rintro (⟨k, k1, k2⟩ | z)
            · exact ⟨k, by omega, by rw [hof k k1]; exact k2⟩
            · exact ⟨depth, by omega, by rw [hod]; exact z.symm⟩
          · rintro ⟨k, k1, k2⟩
            by_cases ek : k = depth
            · rw [ek, hod] at k2
              exact Or.inr k2.symm
            · rw [hof k (by omega)] at k2
              exact Or.inl ⟨k, by omega, k2⟩) (by simp (disch := omega) only [bd_some, lm_e, if_pos, if_neg, up_ne, up_at, upf_same, upf_ne, reduceIte, or_true, true_or, Int.reduceToNat, Int.toNat_natCast, tn100, tn200]; rw [e4]; exact h10)
        rw [show up κc 26 depth (i : Int) 7 14 = κ 7 14 by simp (disch := omega) only [bd_some, lm_e, if_pos, if_neg, up_ne, up_at, upf_same, upf_ne, reduceIte, or_true, true_or, Int.reduceToNat, Int.toNat_natCast, tn100, tn200]; exact e4, show up κc 26 depth (i : Int) 29 = κ 29 by simp (disch := omega) only [bd_some, lm_e, if_pos, if_neg, up_ne, up_at, upf_same, upf_ne, reduceIte, or_true, true_or, Int.reduceToNat, Int.toNat_natCast, tn100, tn200]; exact e5, show up κc 26 depth (i : Int) 30 = κ 30 by simp (disch := omega) only [bd_some, lm_e, if_pos, if_neg, up_ne, up_at, upf_same, upf_ne, reduceIte, or_true, true_or, Int.reduceToNat, Int.toNat_natCast, tn100, tn200]; exact e6] at r4
        rw [show up κc 26 depth (i : Int) 7 14 = κ 7 14 by simp (disch := omega) only [bd_some, lm_e, if_pos, if_neg, up_ne, up_at, upf_same, upf_ne, reduceIte, or_true, true_or, Int.reduceToNat, Int.toNat_natCast, tn100, tn200]; exact e4] at r3
        rw [r1, bd_some]
        rcases r4 with ⟨r0, x1, x2, x3, x4⟩ | ⟨r0, O', B, x1, x2, x3, x4, x5, x6⟩
        · rw [if_pos r0, if_pos (by omega), show (i : Int) + 1 = ((i + 1 : Nat) : Int) by omega]
          refine ih2 m (i + 1) κ2 (by omega) (by omega) r2 r3 x1 x2 (fun k hk => ?_) (fun O' B ho hoi hs => ?_)
          · rw [x3 k (by omega)]
            simp (disch := omega) only [bd_some, lm_e, if_pos, if_neg, up_ne, up_at, upf_same, upf_ne, reduceIte, or_true, true_or, Int.reduceToNat, Int.toNat_natCast, tn100, tn200]
            exact e7 k hk
          · by_cases ei : O' depth = i
            · refine x4 O' B (fun k hk => ?_) hs
              by_cases ek : k = depth
              · rw [ek, hod]; exact ei
              · rw [hof k (by omega)]; exact ho k (by omega)
            · exact e8 O' B ho (by omega) hs
        · refine ⟨1, κ2, by rw [if_neg (by omega)], r2, r3, Or.inr ⟨rfl, O', B, fun k hk => by rw [x1 k (by omega), hof k hk], x2, x3, x4, x5, fun O'' B'' k hs hj k1 k2 => ?_⟩⟩
          by_cases ek : k = depth
          · have e1' : O' depth = i := by rw [x1 depth (by omega), hod]
            rw [ek, e1']
            by_cases z : i ≤ O'' depth
            · exact z
            · exact absurd hs (e8 O'' B'' (fun j hj2 => by rw [hj j (by omega), x1 j (by omega), hof j hj2]) (by omega))
          · exact x6 O'' B'' k hs hj (by omega) k2
    obtain ⟨r, κ', q1, q2⟩ := loop n 64 0 κ (by omega) (by omega) h3 rfl rfl rfl (fun _ _ => rfl) (fun O' B _ h => by omega)
    rw [show ((0 : Nat) : Int) = 0 from rfl] at q1
    refine ⟨r, κ', ?_, q2⟩
    rw [f_X1_seekOrder_e, if_pos (by omega), q1]
end PS
