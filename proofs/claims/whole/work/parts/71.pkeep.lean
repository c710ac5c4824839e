/-! THE PLAN: told, and of lists -/
theorem e_keep {n : Nat} {O : Nat → Nat} {κ0 : Mem} (hn5 : n ≤ 5) (h75 : κ0 7 5 = (n : Int)) (h26 : ∀ k, k < n → κ0 26 k = (O k : Int) ∧ O k < n) : ∀ (e m k : Nat) (κ : Mem), k + e = n → e < m → (∀ a, ¬ (45 ≤ a ∧ a < 50) → κ a = κ0 a) → (∀ j, j < k → κ (45 + j) 0 = κ0 22 (O j) ∧ κ (45 + j) 1 = κ0 27 (O j) ∧ κ (45 + j) 2 = κ0 28 (O j) ∧ κ (45 + j) 3 = κ0 29 (O j)) → ∃ κ', f_X1_keepPlan_10 m (k : Int) κ = some (0, κ') ∧ (∀ a, ¬ (45 ≤ a ∧ a < 50) → κ' a = κ0 a) ∧ (∀ j, j < n → κ' (45 + j) 0 = κ0 22 (O j) ∧ κ' (45 + j) 1 = κ0 27 (O j) ∧ κ' (45 + j) 2 = κ0 28 (O j) ∧ κ' (45 + j) 3 = κ0 29 (O j))
  | 0, m + 1, k, κ, h1, h2, h3, h4 => by
    refine ⟨κ, ?_, h3, fun j hj => h4 j (by omega)⟩
    rw [f_X1_keepPlan_10_e, if_pos (by rw [h3 7 (by omega)]; omega)]
  | e + 1, m + 1, k, κ, h1, h2, h3, h4 => by
    obtain ⟨q1, q2⟩ := h26 k (by omega)
    have e26 : κ 26 k = (O k : Int) := by rw [h3 26 (by omega)]; exact q1
    have n27 : ∀ (m : Mem) (a : Nat) (v : Int), (up m (45 + k) a v) 27 = m 27 := fun _ _ _ => up_ne (by omega)
    have n28 : ∀ (m : Mem) (a : Nat) (v : Int), (up m (45 + k) a v) 28 = m 28 := fun _ _ _ => up_ne (by omega)
    have n29 : ∀ (m : Mem) (a : Nat) (v : Int), (up m (45 + k) a v) 29 = m 29 := fun _ _ _ => up_ne (by omega)
    obtain ⟨κ', w1, w2, w3⟩ := e_keep hn5 h75 h26 e m (k + 1) (up (up (up (up κ (45 + k) 0 (κ 22 (O k))) (45 + k) 1 (κ 27 (O k))) (45 + k) 2 (κ 28 (O k))) (45 + k) 3 (κ 29 (O k))) (by omega) (by omega) (fun a ha => by rw [up_ne (by omega), up_ne (by omega), up_ne (by omega), up_ne (by omega)]; exact h3 a ha) (fun j hj => by
      by_cases ej : j = k
      · subst ej
        rw [h3 22 (by omega), h3 27 (by omega), h3 28 (by omega), h3 29 (by omega)]
        simp only [up_at]
        refine ⟨?_, ?_, ?_, ?_⟩
        · rw [upf_ne (by decide), upf_ne (by decide), upf_ne (by decide), upf_same]
        · rw [upf_ne (by decide), upf_ne (by decide), upf_same]
        · rw [upf_ne (by decide), upf_same]
        · rw [upf_same]
      · rw [up_ne (by omega), up_ne (by omega), up_ne (by omega), up_ne (by omega)]
        exact h4 j (by omega))
    refine ⟨κ', ?_, w2, w3⟩
    rw [show ((k + 1 : Nat) : Int) = (k : Int) + 1 by omega] at w1
    rw [f_X1_keepPlan_10_e, if_neg (by rw [h3 7 (by omega)]; omega), if_pos (by omega), Int.toNat_natCast, e26, if_pos (by omega), Int.toNat_natCast, tn45]
    simp only [lm_e, n27, n28, n29]
    rw [if_pos (by omega), w1]
theorem plz_len {O B : Nat → Nat} : ∀ (d a : Nat), (plz O B a d).length = d
  | 0, _ => rfl
  | d + 1, a => by
    rw [plz_e, List.length_cons, plz_len d (a + 1)]
theorem plz_of : ∀ (l : List (Nat × Nat)) (a : Nat), ∃ P B, l = plz P B a l.length
  | [], a => ⟨fun _ => 0, fun _ => 0, rfl⟩
  | p :: l, a => by
    obtain ⟨P, B, h⟩ := plz_of l (a + 1)
    refine ⟨upN P a p.1, upN B a p.2, ?_⟩
    rw [List.length_cons, plz_e, upN_same, upN_same]
    have e : plz (upN P a p.1) (upN B a p.2) (a + 1) l.length = plz P B (a + 1) l.length := plz_cong _ _ (fun k hk _ => ⟨upN_ne (by omega), upN_ne (by omega)⟩)
    rw [e, ← h]
section PT
variable {n : Nat} {rdy : Nat → Nat → Int → Int} {crs : Nat → Int}
theorem sched_6 {D : Int} : ∀ (l : List (Nat × Nat)) (F Y : Nat → Int), sched n rdy crs D l F Y → ∀ p ∈ l, p.1 < n ∧ p.2 < 6
  | q :: l, F, Y, h, p, hp => by
    rw [sched_e] at h
    rcases List.mem_cons.mp hp with e | e
    · rw [e]; exact ⟨h.1, h.2.1⟩
    · exact sched_6 l _ _ h.2.2.2.2.2 p e
theorem tellC_cong {S : Nat → Prop} {κ : Mem} : ∀ (l : List (Nat × Nat)) (F Y F' Y' : Nat → Int), (∀ p ∈ l, S p.2) → (∀ g, S g → F g = F' g) → (∀ j, j < n → Y j = Y' j) → tellC n rdy crs κ l F Y → tellC n rdy crs κ l F' Y'
  | [], _, _, _, _, _, _, _, _ => trivial
  | p :: l, F, Y, F', Y', h1, h2, h3, h4 => by
    have hp := h2 p.2 (h1 p (List.mem_cons_self ..))
    have e : layPd n rdy crs F Y p.1 p.2 = layPd n rdy crs F' Y' p.1 p.2 := layPd_cong hp h3
    refine ⟨?_, ?_⟩
    · rw [← e, ← hp]; exact h4.1
    · rw [← e]
      exact tellC_cong l _ _ _ _ (fun q hq => h1 q (List.mem_cons_of_mem _ hq)) (upf_cong h2) (upf_cong h3) h4.2
theorem tell_eq {κ : Mem} {b e : Nat → Int} {O B : Nat → Nat} : ∀ (d a : Nat) (F Y : Nat → Int), tellC n rdy crs κ (plz O B a d) F Y → tellR n rdy crs b e (plz O B a d) a F Y → ∀ k, a ≤ k → k < a + d → κ 27 (O k) = (B k : Int) ∧ κ 28 (O k) = b k ∧ κ 29 (O k) = e k
  | 0, a, F, Y, _, _, k, h1, h2 => by omega
  | d + 1, a, F, Y, hc, hr, k, h1, h2 => by
    rw [plz_e] at hc hr
    by_cases ek : k = a
    · subst ek
      exact ⟨hc.1.1, by rw [hr.1.1]; exact hc.1.2.1, by rw [hr.1.2]; exact hc.1.2.2⟩
    · exact tell_eq d (a + 1) _ _ hc.2 hr.2 k (by omega) (by omega)
/-- all stones are in a whole schedule -/
theorem sched_all (hrb : ∀ i g x, -1 ≤ rdy i g x ∧ rdy i g x ≤ 3000) {D : Int} {l : List (Nat × Nat)} {F Y : Nat → Int} (hY : ∀ j, j < n → -1 ≤ Y j) (hl : l.length = n) (h : sched n rdy crs D l F Y) : ∀ i, i < n → ∃ g, (i, g) ∈ l := by
  obtain ⟨P, B, e⟩ := plz_of l 0
  rw [hl] at e
  rw [e] at h
  have q := fun k hk => sched_pos hrb n 0 F Y hY h k (Nat.zero_le _) (by omega)
  intro i hi
  obtain ⟨k, k1, k2⟩ := perm_surj n P (fun k hk => (q k (by omega)).1) (fun j k hjk hk => (q k (by omega)).2.2.1 j (Nat.zero_le _) hjk) i hi
  refine ⟨B k, ?_⟩
  rw [e, ← k2]
  have mem : ∀ (d a : Nat), a ≤ k → k < a + d → (P k, B k) ∈ plz P B a d := by
    intro d
    induction d with
    | zero => intro a h1 h2; omega
    | succ d ih =>
      intro a h1 h2
      rw [plz_e]
      by_cases ek : k = a
      · rw [ek]; exact List.mem_cons_self ..
      · exact List.mem_cons_of_mem _ (ih (a + 1) (by omega) (by omega))
  exact mem n 0 (Nat.zero_le _) (by omega)
end PT
