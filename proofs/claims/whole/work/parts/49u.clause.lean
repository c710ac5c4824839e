/-! TABLE: the clauses -/
def kap (c : Nat) : Nat := if c ≤ 1 then 2 * c else c + 2
def firstQ (W : Nat → Prop) (c : Nat) : Prop := c ≤ 7 ∧ (∀ j, j < c → ¬ W j) ∧ (c = 7 ∨ W c)
theorem firstQ_n (W : Nat → Prop) : ∀ n : Nat, (∀ j, j < n → ¬ W j) ∨ ∃ c, c < n ∧ W c ∧ ∀ j, j < c → ¬ W j
  | 0 => Or.inl (fun j hj => by omega)
  | n + 1 => by
    rcases firstQ_n W n with h | ⟨c, h1, h2, h3⟩
    · by_cases hn : W n
      · exact Or.inr ⟨n, by omega, hn, h⟩
      · refine Or.inl (fun j hj => ?_)
        by_cases e : j = n
        · rw [e]; exact hn
        · exact h j (by omega)
    · exact Or.inr ⟨c, by omega, h2, h3⟩
theorem firstQ_ex (W : Nat → Prop) : ∃ c, firstQ W c := by
  rcases firstQ_n W 7 with h | ⟨c, h1, h2, h3⟩
  · exact ⟨7, by omega, h, Or.inl rfl⟩
  · exact ⟨c, by omega, h3, Or.inr h2⟩
theorem c_wordOf {μ : Mem} {v : Nat} (hv : v < 7) : f_X7_wordOf μ (v : Int) = some (1000 + (v : Int), μ) := by
  have h : v = 0 ∨ v = 1 ∨ v = 2 ∨ v = 3 ∨ v = 4 ∨ v = 5 ∨ v = 6 := by omega
  rcases h with h | h | h | h | h | h | h <;> subst h <;> rfl
section TBL
variable {T : Nat} {b : Nat → Int}
theorem c_clauseAt (hT : T ≤ 200) (hb : ∀ i, i < T → -128 ≤ b i ∧ b i < 128) {μ : Mem} (h : tbC T b μ) {p q c : Nat} (hpq : p ≤ q) (hq : q ≤ T) (hp : μ 5 4 = (q : Int)) (hc : firstQ (wordQ b p q) c) : ∀ (d n v : Nat), v + d = c → d < n → f_X7_clauseAt_2 n (p : Int) (v : Int) μ = some (if c = 7 then -1 else (c : Int), μ)
  | 0, n + 1, v, h1, h2 => by
    rw [f_X7_clauseAt_2_e]
    by_cases e : c = 7
    · rw [if_pos (by omega), if_pos e]
    · have hv : wordQ b p q v := by
        rcases hc.2.2 with x | x
        · exact absurd x e
        · rw [show v = c by omega]; exact x
      have := hc.1
      rw [if_neg (by omega), c_wordOf (by omega), bd_some, hp, c_hasWord hT hb h (by omega) hpq hq, bd_some, b2i_t hv, if_neg (by decide), if_neg e, show v = c by omega]
  | d + 1, n + 1, v, h1, h2 => by
    have hv : ¬ wordQ b p q v := hc.2.1 v (by omega)
    have := hc.1
    have ih := c_clauseAt hT hb h hpq hq hp hc d n (v + 1) (by omega) (by omega)
    rw [f_X7_clauseAt_2_e, if_neg (by omega), c_wordOf (by omega), bd_some, hp, c_hasWord hT hb h (by omega) hpq hq, bd_some, b2i_f hv, if_pos rfl, if_pos (by omega), show (v : Int) + 1 = ((v + 1 : Nat) : Int) by omega, ih]
theorem r59_s {ν : Mem} {n : Nat} {v y : Int} (h9 : ¬ 9 ≤ v) (hv : inR (v + 1)) (hw : f_X11_wordOf ν v = some (y, ν)) (hf : f_X11_isWord ν y = some (0, ν)) : f_X11_clause_59 (n + 1) v ν = f_X11_clause_59 n (v + 1) ν := by
  rw [f_X11_clause_59_e, if_neg h9, hw, bd_some, hf, bd_some, if_pos rfl, if_pos hv]
theorem r59_h {ν : Mem} {n : Nat} {v y : Int} (h9 : ¬ 9 ≤ v) (hw : f_X11_wordOf ν v = some (y, ν)) (hf : f_X11_isWord ν y = some (1, ν)) : f_X11_clause_59 (n + 1) v ν = f_X11_clause_82 v ν := by
  rw [f_X11_clause_59_e, if_neg h9, hw, bd_some, hf, bd_some, if_neg (by decide)]
theorem r59_e {ν : Mem} {n : Nat} : f_X11_clause_59 (n + 1) 9 ν = f_X11_clause_82 9 ν := by
  rw [f_X11_clause_59_e, if_pos (by decide)]
theorem r_59 (hT : T ≤ 200) {ν : Mem} (h : tbR T b ν) {p q c : Nat} (hpq : p ≤ q) (hq : q ≤ T) (hf : ν 300 21 = (p : Int)) (ha : ν 300 20 = (q : Int)) (hc : firstQ (wordQ b p q) c) : f_X11_clause_59 256 0 ν = f_X11_clause_82 (kap c : Int) ν := by
  obtain ⟨c7, c1, c2⟩ := hc
  have no : ∀ j : Nat, j < 7 → j < c → f_X11_isWord ν (1000 + (j : Int)) = some (0, ν) := fun j h7 hj => by rw [r_isWord hT h h7 hpq hq hf ha, b2i_f (c1 j hj)]
  have yes : c < 7 → f_X11_isWord ν (1000 + (c : Int)) = some (1, ν) := fun h7 => by
    rcases c2 with e | e
    · omega
    · rw [r_isWord hT h h7 hpq hq hf ha, b2i_t e]
  have nn : f_X11_isWord ν 1007 = some (0, ν) := r_isNone
  have hc8 : c = 0 ∨ c = 1 ∨ c = 2 ∨ c = 3 ∨ c = 4 ∨ c = 5 ∨ c = 6 ∨ c = 7 := by omega
  rcases hc8 with e | e | e | e | e | e | e | e <;> subst e
  · rw [r59_h (v := 0) (y := 1000) (by decide) rfl (yes (by decide))]
    rfl
  · rw [r59_s (v := 0) (y := 1000) (by decide) (by decide) rfl (no 0 (by decide) (by decide)), show (0 : Int) + 1 = 1 from rfl, r59_s (v := 1) (y := 1007) (by decide) (by decide) rfl nn, show (1 : Int) + 1 = 2 from rfl, r59_h (v := 2) (y := 1001) (by decide) rfl (yes (by decide))]
    rfl
  · rw [r59_s (v := 0) (y := 1000) (by decide) (by decide) rfl (no 0 (by decide) (by decide)), show (0 : Int) + 1 = 1 from rfl, r59_s (v := 1) (y := 1007) (by decide) (by decide) rfl nn, show (1 : Int) + 1 = 2 from rfl, r59_s (v := 2) (y := 1001) (by decide) (by decide) rfl (no 1 (by decide) (by decide)), show (2 : Int) + 1 = 3 from rfl, r59_s (v := 3) (y := 1007) (by decide) (by decide) rfl nn, show (3 : Int) + 1 = 4 from rfl, r59_h (v := 4) (y := 1002) (by decide) rfl (yes (by decide))]
    rfl
  · rw [r59_s (v := 0) (y := 1000) (by decide) (by decide) rfl (no 0 (by decide) (by decide)), show (0 : Int) + 1 = 1 from rfl, r59_s (v := 1) (y := 1007) (by decide) (by decide) rfl nn, show (1 : Int) + 1 = 2 from rfl, r59_s (v := 2) (y := 1001) (by decide) (by decide) rfl (no 1 (by decide) (by decide)), show (2 : Int) + 1 = 3 from rfl, r59_s (v := 3) (y := 1007) (by decide) (by decide) rfl nn, show (3 : Int) + 1 = 4 from rfl, r59_s (v := 4) (y := 1002) (by decide) (by decide) rfl (no 2 (by decide) (by decide)), show (4 : Int) + 1 = 5 from rfl, r59_h (v := 5) (y := 1003) (by decide) rfl (yes (by decide))]
    rfl
  · rw [r59_s (v := 0) (y := 1000) (by decide) (by decide) rfl (no 0 (by decide) (by decide)), show (0 : Int) + 1 = 1 from rfl, r59_s (v := 1) (y := 1007) (by decide) (by decide) rfl nn, show (1 : Int) + 1 = 2 from rfl, r59_s (v := 2) (y := 1001) (by decide) (by decide) rfl (no 1 (by decide) (by decide)), show (2 : Int) + 1 = 3 from rfl, r59_s (v := 3) (y := 1007) (by decide) (by decide) rfl nn, show (3 : Int) + 1 = 4 from rfl, r59_s (v := 4) (y := 1002) (by decide) (by decide) rfl (no 2 (by decide) (by decide)), show (4 : Int) + 1 = 5 from rfl, r59_s (v := 5) (y := 1003) (by decide) (by decide) rfl (no 3 (by decide) (by decide)), show (5 : Int) + 1 = 6 from rfl, r59_h (v := 6) (y := 1004) (by decide) rfl (yes (by decide))]
    rfl
  · rw [r59_s (v := 0) (y := 1000) (by decide) (by decide) rfl (no 0 (by decide) (by decide)), show (0 : Int) + 1 = 1 from rfl, r59_s (v := 1) (y := 1007) (by decide) (by decide) rfl nn, show (1 : Int) + 1 = 2 from rfl, r59_s (v := 2) (y := 1001) (by decide) (by decide) rfl (no 1 (by decide) (by decide)), show (2 : Int) + 1 = 3 from rfl, r59_s (v := 3) (y := 1007) (by decide) (by decide) rfl nn, show (3 : Int) + 1 = 4 from rfl, r59_s (v := 4) (y := 1002) (by decide) (by decide) rfl (no 2 (by decide) (by decide)), show (4 : Int) + 1 = 5 from rfl, r59_s (v := 5) (y := 1003) (by decide) (by decide) rfl (no 3 (by decide) (by decide)), show (5 : Int) + 1 = 6 from rfl, r59_s (v := 6) (y := 1004) (by decide) (by decide) rfl (no 4 (by decide) (by decide)), show (6 : Int) + 1 = 7 from rfl, r59_h (v := 7) (y := 1005) (by decide) rfl (yes (by decide))]
    rfl
  · rw [r59_s (v := 0) (y := 1000) (by decide) (by decide) rfl (no 0 (by decide) (by decide)), show (0 : Int) + 1 = 1 from rfl, r59_s (v := 1) (y := 1007) (by decide) (by decide) rfl nn, show (1 : Int) + 1 = 2 from rfl, r59_s (v := 2) (y := 1001) (by decide) (by decide) rfl (no 1 (by decide) (by decide)), show (2 : Int) + 1 = 3 from rfl, r59_s (v := 3) (y := 1007) (by decide) (by decide) rfl nn, show (3 : Int) + 1 = 4 from rfl, r59_s (v := 4) (y := 1002) (by decide) (by decide) rfl (no 2 (by decide) (by decide)), show (4 : Int) + 1 = 5 from rfl, r59_s (v := 5) (y := 1003) (by decide) (by decide) rfl (no 3 (by decide) (by decide)), show (5 : Int) + 1 = 6 from rfl, r59_s (v := 6) (y := 1004) (by decide) (by decide) rfl (no 4 (by decide) (by decide)), show (6 : Int) + 1 = 7 from rfl, r59_s (v := 7) (y := 1005) (by decide) (by decide) rfl (no 5 (by decide) (by decide)), show (7 : Int) + 1 = 8 from rfl, r59_h (v := 8) (y := 1006) (by decide) rfl (yes (by decide))]
    rfl
  · rw [r59_s (v := 0) (y := 1000) (by decide) (by decide) rfl (no 0 (by decide) (by decide)), show (0 : Int) + 1 = 1 from rfl, r59_s (v := 1) (y := 1007) (by decide) (by decide) rfl nn, show (1 : Int) + 1 = 2 from rfl, r59_s (v := 2) (y := 1001) (by decide) (by decide) rfl (no 1 (by decide) (by decide)), show (2 : Int) + 1 = 3 from rfl, r59_s (v := 3) (y := 1007) (by decide) (by decide) rfl nn, show (3 : Int) + 1 = 4 from rfl, r59_s (v := 4) (y := 1002) (by decide) (by decide) rfl (no 2 (by decide) (by decide)), show (4 : Int) + 1 = 5 from rfl, r59_s (v := 5) (y := 1003) (by decide) (by decide) rfl (no 3 (by decide) (by decide)), show (5 : Int) + 1 = 6 from rfl, r59_s (v := 6) (y := 1004) (by decide) (by decide) rfl (no 4 (by decide) (by decide)), show (6 : Int) + 1 = 7 from rfl, r59_s (v := 7) (y := 1005) (by decide) (by decide) rfl (no 5 (by decide) (by decide)), show (7 : Int) + 1 = 8 from rfl, r59_s (v := 8) (y := 1006) (by decide) (by decide) rfl (no 6 (by decide) (by decide)), show (8 : Int) + 1 = 9 from rfl, r59_e]
    rfl
/-- numbers -/
def dv (b : Nat → Int) (s : Nat) : Nat → Int
  | 0 => 0
  | m + 1 => dv b s m * 10 + (b (s + m) - 48)
theorem dv_b {s : Nat} : ∀ m : Nat, (∀ j, j < m → isDig (b (s + j))) → 0 ≤ dv b s m ∧ dv b s m + 1 ≤ ((10 ^ m : Nat) : Int)
  | 0, _ => ⟨Int.le_refl 0, by show (0 : Int) + 1 ≤ 1; decide⟩
  | m + 1, h => by
    have ih := dv_b (s := s) m (fun j hj => h j (by omega))
    have hd := h m (by omega)
    unfold isDig at hd
    have e : ((10 ^ (m + 1) : Nat) : Int) = ((10 ^ m : Nat) : Int) * 10 := by rw [Nat.pow_succ]; rfl
    show 0 ≤ dv b s m * 10 + (b (s + m) - 48) ∧ dv b s m * 10 + (b (s + m) - 48) + 1 ≤ _
    rw [e]
    generalize ((10 ^ m : Nat) : Int) = z at ih
    omega
theorem dv_3 {s m : Nat} (hm : m ≤ 3) (h : ∀ j, j < m → isDig (b (s + j))) : 0 ≤ dv b s m ∧ dv b s m ≤ 999 := by
  have h1 := dv_b m h
  have h2 : (10 ^ m : Nat) ≤ 1000 := Nat.le_trans (Nat.pow_le_pow_right (by decide) hm) (by decide)
  generalize hz : (10 ^ m : Nat) = z at h1 h2
  omega
theorem c_dig (hT : T ≤ 200) (hb : ∀ i, i < T → -128 ≤ b i ∧ b i < 128) (k : Int) (s : Nat) : ∀ (d n m : Nat) (μ : Mem), tbC T b μ → μ 5 4 = ((s + m : Nat) : Int) → runT isDig T b (s + m) (s + m + d) → (∀ j, j < m → isDig (b (s + j))) → d < n → f_X7_readNumber_11 n k (s : Int) (dv b s (min m 3)) μ = f_X7_readNumber_82 k (s : Int) (dv b s (min (m + d) 3)) (up μ 5 4 ((s + m + d : Nat) : Int))
  | 0, n + 1, m, μ, h, hp, hr, hm, hn => by
    rw [f_X7_readNumber_11_e, Nat.add_zero, Nat.add_zero, ← hp, up_id]
    by_cases c : s + m = T
    · rw [if_pos (by rw [h.1]; omega)]
    · have hpT : s + m < T := by have := hr.2.1; omega
      have hl : ¬ isDig (b (s + m)) := by
        rcases hr.2.2.2 with e | e
        · omega
        · exact e
      rw [if_neg (by rw [h.1]; omega), hp, c_isDigit hT hb h hpT, bd_some, b2i_f hl, if_pos rfl]
  | d + 1, n + 1, m, μ, h, hp, hr, hm, hn => by
    obtain ⟨hl, hr2⟩ := runT_s hr (by omega)
    have hpT : s + m < T := by have := hr.2.1; omega
    obtain ⟨u, u1, u2⟩ := c_byteAt h hT hb (s + m) hpT
    have hl2 := hl
    unfold isDig at hl2
    have hm2 : ∀ j, j < m + 1 → isDig (b (s + j)) := fun j hj => by
      by_cases e : j = m
      · rw [e]; exact hl
      · exact hm j (by omega)
    have ih := c_dig hT hb k s d n (m + 1) (up μ 5 4 (((s + m : Nat) : Int) + 1)) (tbC_up h (by decide) (by decide)) (by rw [up_at, upf_same]; omega) (by rw [show s + (m + 1) = s + m + 1 by omega, show s + m + 1 + d = s + m + (d + 1) by omega]; exact hr2) hm2 (by omega)
    rw [show s + (m + 1) + d = s + m + (d + 1) by omega, show m + 1 + d = m + (d + 1) by omega, up_up] at ih
    rw [f_X7_readNumber_11_e, if_neg (by rw [h.1]; omega), hp, c_isDigit hT hb h hpT, bd_some, b2i_t hl, if_neg (by decide), hp, if_pos (by omega)]
    by_cases c3 : 3 ≤ m
    · rw [if_pos (by omega), if_pos (by omega), lm_e, ← ih, show min (m + 1) 3 = 3 by omega, show min m 3 = 3 by omega]
    · have hd := dv_3 (s := s) (m := m) (by omega) hm
      have e1 : dv b s (min m 3) * 10 + u - 48 = dv b s (min (m + 1) 3) := by
        rw [show min m 3 = m by omega, show min (m + 1) 3 = m + 1 by omega]
        show _ = dv b s m * 10 + (b (s + m) - 48)
        omega
      have hd2 := dv_3 (s := s) (m := m + 1) (by omega) hm2
      rw [if_neg (by omega), u1, bd_some, hp, if_pos (by omega), lm_e, e1, if_pos (by rw [show min (m + 1) 3 = m + 1 by omega]; omega), ← ih]
def rvN (b : Nat → Int) (s m : Nat) : Int := if m ≤ 3 then dv b s m else 10000
theorem r_dig (hT : T ≤ 200) (top : Int) (s : Nat) : ∀ (d n m : Nat) (ν : Mem), tbR T b ν → ν 300 20 = ((s + m : Nat) : Int) → ν 300 21 = (s : Int) → runT isDig T b (s + m) (s + m + d) → (∀ j, j < m → isDig (b (s + j))) → d < n → f_X11_number_16 n top (rvN b s m) ν = f_X11_number_105 top (rvN b s (m + d)) (up ν 300 20 ((s + m + d : Nat) : Int))
  | 0, n + 1, m, ν, h, hp, hf, hr, hm, hn => by
    rw [f_X11_number_16_e, Nat.add_zero, Nat.add_zero, ← hp, up_id]
    by_cases c : s + m = T
    · rw [if_pos (by rw [h.1]; omega)]
    · have hpT : s + m < T := by have := hr.2.1; omega
      have hl : ¬ isDig (b (s + m)) := by
        rcases hr.2.2.2 with e | e
        · omega
        · exact e
      have hv := h.2 (s + m) hpT
      unfold isDig at hl
      rw [if_neg (by rw [h.1]; omega), if_pos (by omega), hp, Int.toNat_natCast]
      by_cases c1 : ν 311 (s + m) < 48
      · rw [if_pos c1]
      · rw [if_neg c1, if_pos (by omega)]
  | d + 1, n + 1, m, ν, h, hp, hf, hr, hm, hn => by
    obtain ⟨hl, hr2⟩ := runT_s hr (by omega)
    have hpT : s + m < T := by have := hr.2.1; omega
    have hv := h.2 (s + m) hpT
    have hl2 := hl
    unfold isDig at hl2
    have hm2 : ∀ j, j < m + 1 → isDig (b (s + j)) := fun j hj => by
      by_cases e : j = m
      · rw [e]; exact hl
      · exact hm j (by omega)
    have ih := r_dig hT top s d n (m + 1) (up ν 300 20 (((s + m : Nat) : Int) + 1)) (tbR_up h (Or.inr (by decide)) (by decide)) (by rw [up_at, upf_same]; omega) (by rw [up_at, upf_ne (by decide)]; exact hf) (by rw [show s + (m + 1) = s + m + 1 by omega, show s + m + 1 + d = s + m + (d + 1) by omega]; exact hr2) hm2 (by omega)
    rw [show s + (m + 1) + d = s + m + (d + 1) by omega, show m + 1 + d = m + (d + 1) by omega, up_up] at ih
    rw [f_X11_number_16_e, if_neg (by rw [h.1]; omega), if_pos (by omega), hp, Int.toNat_natCast, if_neg (by omega), if_neg (by omega), hf, if_pos (by omega)]
    by_cases c3 : 3 ≤ m
    · rw [if_pos (by omega), if_pos (by omega), lm_e, ← ih, show rvN b s (m + 1) = 10000 from if_neg (by omega)]
    · have hd := dv_3 (s := s) (m := m) (by omega) hm
      have e1 : 10 * rvN b s m + ν 311 (s + m) - 48 = rvN b s (m + 1) := by
        rw [show rvN b s m = dv b s m from if_pos (by omega), show rvN b s (m + 1) = dv b s (m + 1) from if_pos (by omega), hv]
        show _ = dv b s m * 10 + (b (s + m) - 48)
        omega
      have hd2 := dv_3 (s := s) (m := m + 1) (by omega) hm2
      rw [if_neg (by omega), if_pos (by omega), lm_e, e1, if_pos (by rw [show rvN b s (m + 1) = dv b s (m + 1) from if_pos (by omega)]; omega), ← ih]
def numOK (b : Nat → Int) (s M : Nat) (top : Int) : Prop := 1 ≤ M ∧ M ≤ 3 ∧ 1 ≤ dv b s M ∧ dv b s M ≤ top
def numF (s M : Nat) : Int := if M = 0 then 1 + 4 * (s : Int) + 0 else 1 + 4 * (s : Int) + 1
def gr (k : Nat) : Int := kGreatest.getD k 0
theorem gr_b : ∀ k : Nat, k < 9 → 1 ≤ gr k ∧ gr k ≤ 200 ∧ (k < 7 → gr k ≤ 99) := by decide +kernel
theorem c_num (hT : T ≤ 200) (hb : ∀ i, i < T → -128 ≤ b i ∧ b i < 128) {μ : Mem} (h : tbC T b μ) {p s M k : Nat} (hp : μ 5 4 = (p : Int)) (h1 : runT (fun z => z = 32) T b p s) (h2 : runT isDig T b s (s + M)) (hk : k < 9) : f_X7_readNumber μ (k : Int) = @ite _ (numOK b s M (gr k)) (Classical.propDecidable _) (some (1, up (up μ 5 4 ((s + M : Nat) : Int)) 18 k (dv b s M))) (some (0, up (up μ 5 4 ((s + M : Nat) : Int)) 5 5 (numF s M))) := by
  have hs := h2.2.1
  have hdig : ∀ j, j < M → isDig (b (s + j)) := fun j hj => h2.2.2.1 (s + j) (by omega) (by omega)
  have q := c_dig hT hb (k : Int) s M 256 0 (up μ 5 4 (s : Int)) (tbC_up h (by decide) (by decide)) (by rw [up_at, upf_same]; rfl) (by rw [Nat.add_zero]; exact h2) (fun j hj => by omega) (by omega)
  rw [show min 0 3 = 0 from rfl, show dv b s 0 = 0 from rfl, Nat.zero_add, Nat.add_zero, up_up] at q
  unfold f_X7_readNumber
  rw [c_skipB hT hb h hp h1, bd_some, show up μ 5 4 (s : Int) 5 4 = (s : Int) by rw [up_at, upf_same], q]
  have e54 : up μ 5 4 ((s + M : Nat) : Int) 5 4 = ((s + M : Nat) : Int) := by rw [up_at, upf_same]
  have hg : kGreatest.getD ((k : Int)).toNat 0 = gr k := by rw [Int.toNat_natCast]; rfl
  unfold f_X7_readNumber_82 f_X7_fail
  rw [e54, hg, Int.toNat_natCast]
  generalize up μ 5 4 ((s + M : Nat) : Int) = m1
  by_cases c0 : M = 0
  · rw [if_neg (fun x : numOK b s M (gr k) => by have := x.1; omega), if_pos (by omega), show numF s M = 1 + 4 * (s : Int) + 0 from if_pos c0, if_pos (by omega), lm_e, bd_some, if_pos (Or.inl rfl)]
  · have hF : numF s M = 1 + 4 * (s : Int) + 1 := if_neg c0
    rw [if_neg (by omega), if_neg (by omega), if_pos (by omega), if_pos (by omega)]
    by_cases c3 : M ≤ 3
    · have e3 : min M 3 = M := by omega
      rw [e3, if_neg (by omega)]
      by_cases c1 : dv b s M < 1
      · rw [if_neg (fun x : numOK b s M (gr k) => by have := x.2.2.1; omega), if_pos c1, hF, if_pos (by omega), lm_e, bd_some, if_pos (Or.inl rfl)]
      · by_cases c2 : dv b s M ≤ gr k
        · rw [if_pos (show numOK b s M (gr k) from ⟨by omega, c3, by omega, c2⟩), if_neg c1, if_pos (by omega), if_pos c2, lm_e]
        · rw [if_neg (fun x : numOK b s M (gr k) => c2 x.2.2.2), if_neg c1, if_pos (by omega), if_neg c2, hF, if_pos (by omega), lm_e, bd_some, if_pos (Or.inl rfl)]
    · rw [if_neg (fun x : numOK b s M (gr k) => by have := x.2.1; omega), if_pos (by omega), hF, if_pos (by omega), lm_e, bd_some, if_pos (Or.inl rfl)]
theorem r_num (hT : T ≤ 200) {ν : Mem} (h : tbR T b ν) {p s M : Nat} {top : Int} (hp : ν 300 20 = (p : Int)) (h0 : ν 300 22 = 0) (ht : 1 ≤ top ∧ top ≤ 200) (h1 : runT (fun z => z = 32) T b p s) (h2 : runT isDig T b s (s + M)) : f_X11_number ν top = some (rvN b s M, @ite _ (numOK b s M top) (Classical.propDecidable _) (up (up (up ν 300 20 (s : Int)) 300 21 (s : Int)) 300 20 ((s + M : Nat) : Int)) (up (up (up (up ν 300 20 (s : Int)) 300 21 (s : Int)) 300 20 ((s + M : Nat) : Int)) 300 22 (numF s M))) := by
  have hs := h2.2.1
  have hdig : ∀ j, j < M → isDig (b (s + j)) := fun j hj => h2.2.2.1 (s + j) (by omega) (by omega)
  have t1 : tbR T b (up (up ν 300 20 (s : Int)) 300 21 (s : Int)) := tbR_up (tbR_up h (Or.inr (by decide)) (by decide)) (Or.inr (by decide)) (by decide)
  have q := r_dig hT top s M 256 0 (up (up ν 300 20 (s : Int)) 300 21 (s : Int)) t1 (by simp (disch := omega) only [bd_some, lm_e, if_pos, if_neg, up_ne, up_at, upf_same, upf_ne, reduceIte, or_true, true_or, Int.reduceToNat, Int.toNat_natCast, tn100, tn200]; rfl) (by simp (disch := omega) only [bd_some, lm_e, if_pos, if_neg, up_ne, up_at, upf_same, upf_ne, reduceIte, or_true, true_or, Int.reduceToNat, Int.toNat_natCast, tn100, tn200]) (by rw [Nat.add_zero]; exact h2) (fun j hj => by omega) (by omega)
  rw [show rvN b s 0 = 0 from rfl, Nat.zero_add, Nat.add_zero] at q
  unfold f_X11_number
  rw [if_pos (by omega), r_over hT h hp h1, bd_some, q]
  unfold f_X11_number_105 f_X11_fails
  rw [show up (up (up ν 300 20 (s : Int)) 300 21 (s : Int)) 300 20 ((s + M : Nat) : Int) 300 20 = ((s + M : Nat) : Int) by simp (disch := omega) only [bd_some, lm_e, if_pos, if_neg, up_ne, up_at, upf_same, upf_ne, reduceIte, or_true, true_or, Int.reduceToNat, Int.toNat_natCast, tn100, tn200], show up (up (up ν 300 20 (s : Int)) 300 21 (s : Int)) 300 20 ((s + M : Nat) : Int) 300 21 = (s : Int) by simp (disch := omega) only [bd_some, lm_e, if_pos, if_neg, up_ne, up_at, upf_same, upf_ne, reduceIte, or_true, true_or, Int.reduceToNat, Int.toNat_natCast, tn100, tn200], show up (up (up ν 300 20 (s : Int)) 300 21 (s : Int)) 300 20 ((s + M : Nat) : Int) 300 22 = 0 by simp (disch := omega) only [bd_some, lm_e, if_pos, if_neg, up_ne, up_at, upf_same, upf_ne, reduceIte, or_true, true_or, Int.reduceToNat, Int.toNat_natCast, tn100, tn200]; exact h0]
  have e22 : up (up (up ν 300 20 (s : Int)) 300 21 (s : Int)) 300 20 ((s + M : Nat) : Int) 300 22 = 0 := by simp (disch := omega) only [bd_some, lm_e, if_pos, if_neg, up_ne, up_at, upf_same, upf_ne, reduceIte, or_true, true_or, Int.reduceToNat, Int.toNat_natCast, tn100, tn200]; exact h0
  have e21 : up (up (up ν 300 20 (s : Int)) 300 21 (s : Int)) 300 20 ((s + M : Nat) : Int) 300 21 = (s : Int) := by simp (disch := omega) only [bd_some, lm_e, if_pos, if_neg, up_ne, up_at, upf_same, upf_ne, reduceIte, or_true, true_or, Int.reduceToNat, Int.toNat_natCast, tn100, tn200]
  generalize up (up (up ν 300 20 (s : Int)) 300 21 (s : Int)) 300 20 ((s + M : Nat) : Int) = m1 at e22 e21
  by_cases c0 : M = 0
  · rw [if_pos (by omega), if_pos rfl, if_pos (by omega), lm_e, bd_some, if_neg (fun x : numOK b s M top => by have := x.1; omega), show numF s M = 1 + 4 * (s : Int) + 0 from if_pos c0]
  · have hF : numF s M = 1 + 4 * (s : Int) + 1 := if_neg c0
    rw [if_neg (by omega), f_in_e, bd_some]
    by_cases c3 : numOK b s M top
    · have hr : rvN b s M = dv b s M := if_pos c3.2.1
      rw [b2i_t (by rw [hr]; exact c3.2.2), if_neg (by decide), if_pos c3]
    · have hr : ¬ (1 ≤ rvN b s M ∧ rvN b s M ≤ top) := by
        intro x
        by_cases c4 : M ≤ 3
        · rw [show rvN b s M = dv b s M from if_pos c4] at x
          exact c3 ⟨by omega, c4, x⟩
        · rw [show rvN b s M = 10000 from if_neg c4] at x
          omega
      rw [b2i_f hr, if_pos rfl, e22, e21, if_pos rfl, if_pos (by omega), lm_e, bd_some, if_neg c3, hF]
end TBL
