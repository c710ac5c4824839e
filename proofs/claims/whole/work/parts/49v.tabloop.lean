/-! TABLE: a clause, all clauses -/
def cF (μ μ' : Mem) : Prop := ∀ a, a ≠ 5 → a ≠ 18 → μ' a = μ a
def rF (ν ν' : Mem) : Prop := (∀ a, a ≠ 300 → a ≠ 313 → a ≠ 314 → ν' a = ν a) ∧ (∀ j, j ≠ 20 → j ≠ 21 → j ≠ 22 → ν' 300 j = ν 300 j)
theorem cF_tr {a b c : Mem} (h : cF a b) (k : cF b c) : cF a c := fun x h1 h2 => (k x h1 h2).trans (h x h1 h2)
theorem rF_tr {a b c : Mem} (h : rF a b) (k : rF b c) : rF a c := ⟨fun x h1 h2 h3 => (k.1 x h1 h2 h3).trans (h.1 x h1 h2 h3), fun j h1 h2 h3 => (k.2 j h1 h2 h3).trans (h.2 j h1 h2 h3)⟩
def numI (μ ν : Mem) : Prop := ∀ k : Nat, k < 9 → μ 18 k = ν 313 k ∧ 1 ≤ ν 313 k ∧ ν 313 k ≤ 200 ∧ (k < 7 → ν 313 k ≤ 99)
def tldP (z : Int) (c : Nat) : Prop := z.toNat.testBit c = true
def TI (T : Nat) (b : Nat → Int) (i p : Nat) (μ ν : Mem) : Prop := (tbC T b μ ∧ tbR T b ν) ∧ (μ 5 4 = (p : Int) ∧ ν 300 20 = (p : Int) ∧ p ≤ T) ∧ (μ 5 5 = -1 ∧ ν 300 22 = 0 ∧ μ 5 2 = (i : Int)) ∧ numI μ ν ∧ (0 ≤ μ 5 3 ∧ μ 5 3 < 2147483648) ∧ (∀ c, c < 7 → (tldP (μ 5 3) c ↔ ν 314 (kap c) ≠ 0)) ∧ countTo (tldP (μ 5 3)) 7 = (i : Int)
theorem countTo_ins {p q : Nat → Prop} {c : Nat} (hp : ¬ p c) : ∀ n : Nat, (∀ j, j < n → (q j ↔ p j ∨ j = c)) → countTo q n = countTo p n + b2i (c < n)
  | 0, _ => by
    show (0 : Int) = 0 + b2i (c < 0)
    rw [b2i_f (by omega)]; rfl
  | n + 1, h => by
    have ih := countTo_ins hp n (fun j hj => h j (by omega))
    show countTo q n + b2i (q n) = countTo p n + b2i (p n) + b2i (c < n + 1)
    rw [ih]
    have hn := h n (by omega)
    by_cases e : n = c
    · rw [b2i_t (hn.mpr (Or.inr e)), b2i_f (p := p n) (by rw [e]; exact hp), b2i_f (p := c < n) (by omega), b2i_t (p := c < n + 1) (by omega)]
    · rw [b2i_cong (p := q n) (q := p n) ⟨fun x => (hn.mp x).elim id (fun y => absurd y e), fun x => hn.mpr (Or.inl x)⟩, b2i_cong (p := c < n + 1) (q := c < n) (by omega)]
      omega
theorem kap_inj {c d : Nat} (h : kap c = kap d) : c = d := by
  unfold kap at h
  split at h <;> split at h <;> omega
theorem kap_b {c : Nat} (h : c < 7) : kap c < 9 := by
  unfold kap
  split <;> omega
theorem kFrom_e : ∀ c : Nat, c < 7 → kFrom.getD ((c : Int)).toNat 0 = (kap c : Int) ∧ kFrom.getD ((c : Int) + 1).toNat 0 = (if c ≤ 1 then (kap c : Int) + 2 else (kap c : Int) + 1) := by decide +kernel
theorem most_e {ν : Mem} : ∀ c : Nat, c < 7 → f_X11_most ν (kap c : Int) = some (gr (kap c), ν) ∧ (c ≤ 1 → gr (kap c + 1) = gr (kap c)) := by
  intro c hc
  have h : c = 0 ∨ c = 1 ∨ c = 2 ∨ c = 3 ∨ c = 4 ∨ c = 5 ∨ c = 6 := by omega
  rcases h with h | h | h | h | h | h | h <;> subst h <;> exact ⟨rfl, fun h9 => by first | rfl | omega⟩
section TBL
variable {T : Nat} {b : Nat → Int}
theorem c_readWord (hT : T ≤ 200) (hb : ∀ i, i < T → -128 ≤ b i ∧ b i < 128) {μ : Mem} (h : tbC T b μ) {p s q c : Nat} (hp : μ 5 4 = (p : Int)) (h1 : runT (fun z => z = 32) T b p s) (h2 : runT isLet T b s q) (hc : firstQ (wordQ b s q) c) (hz : 0 ≤ μ 5 3 ∧ μ 5 3 < 2147483648) : (c = 7 → f_X7_readWord μ = some (-1, up (up μ 5 4 (q : Int)) 5 5 (1 + 4 * (s : Int) + 0))) ∧ (c < 7 → tldP (μ 5 3) c → f_X7_readWord μ = some (-1, up (up μ 5 4 (q : Int)) 5 5 (1 + 4 * (s : Int) + 2))) ∧ (c < 7 → ¬ tldP (μ 5 3) c → f_X7_readWord μ = some ((c : Int), up (up μ 5 4 (q : Int)) 5 3 (zor (μ 5 3) (zshl 1 (c : Int))))) := by
  have hs := h2.2.1
  have hsq := h2.1
  have w := c_word hT hb (s : Int) (q - s) 256 s (up μ 5 4 (s : Int)) (tbC_up h (by decide) (by decide)) (by rw [up_at, upf_same]) (by rw [show s + (q - s) = q by omega]; exact h2) (by omega)
  rw [show s + (q - s) = q by omega, up_up] at w
  have e : f_X7_readWord μ = f_X7_readWord_50 (s : Int) (up μ 5 4 (q : Int)) := by
    unfold f_X7_readWord
    rw [c_skipB hT hb h hp h1, bd_some, show up μ 5 4 (s : Int) 5 4 = (s : Int) by rw [up_at, upf_same]]
    exact w
  have ca := c_clauseAt hT hb (tbC_up (o := 5) (k := 4) (v := (q : Int)) h (by decide) (by decide)) hsq hs (by rw [up_at, upf_same]) hc c 64 0 (by omega) (by have := hc.1; omega)
  rw [show ((0 : Nat) : Int) = 0 from rfl] at ca
  have e53 : up μ 5 4 (q : Int) 5 3 = μ 5 3 := by rw [up_at, upf_ne (by decide)]
  rw [e]
  unfold f_X7_readWord_50 f_X7_clauseAt f_X7_fail
  rw [ca, bd_some]
  refine ⟨fun h7 => ?_, fun h7 ht => ?_, fun h7 ht => ?_⟩
  · rw [if_pos h7, if_pos rfl, if_pos (by omega), lm_e, bd_some]
  · unfold tldP at ht
    rw [if_neg (show ¬ c = 7 by omega), if_neg (by omega), e53, if_neg (fun x => by rw [zbit hz.1 hz.2 (by omega)] at x; rw [x] at ht; exact absurd ht (by decide)), if_pos (by omega), lm_e, bd_some]
  · unfold tldP at ht
    rw [if_neg (show ¬ c = 7 by omega), if_neg (by omega), e53, if_pos (by rw [zbit hz.1 hz.2 (by omega)]; cases hx : (μ 5 3).toNat.testBit c with | false => rfl | true => exact absurd hx ht), lm_e]
theorem r_clause (hT : T ≤ 200) {ν : Mem} (h : tbR T b ν) {p s q c : Nat} (hp : ν 300 20 = (p : Int)) (h1 : runT (fun z => z = 32) T b p s) (h2 : runT isLet T b s q) (hc : firstQ (wordQ b s q) c) : f_X11_clause ν = f_X11_clause_82 (kap c : Int) (up (up (up ν 300 20 (s : Int)) 300 21 (s : Int)) 300 20 (q : Int)) := by
  have hs := h2.2.1
  have hsq := h2.1
  have t1 : tbR T b (up (up ν 300 20 (s : Int)) 300 21 (s : Int)) := tbR_up (tbR_up h (Or.inr (by decide)) (by decide)) (Or.inr (by decide)) (by decide)
  have w := r_word hT (q - s) 256 s (up (up ν 300 20 (s : Int)) 300 21 (s : Int)) t1 (by simp (disch := omega) only [bd_some, lm_e, if_pos, if_neg, up_ne, up_at, upf_same, upf_ne, reduceIte, or_true, true_or, Int.reduceToNat, Int.toNat_natCast, tn100, tn200]) (by rw [show s + (q - s) = q by omega]; exact h2) (by omega)
  rw [show s + (q - s) = q by omega] at w
  unfold f_X11_clause
  rw [r_over hT h hp h1, bd_some, w]
  exact r_59 hT (tbR_up t1 (Or.inr (by decide)) (by decide)) hsq hs (by simp (disch := omega) only [bd_some, lm_e, if_pos, if_neg, up_ne, up_at, upf_same, upf_ne, reduceIte, or_true, true_or, Int.reduceToNat, Int.toNat_natCast, tn100, tn200]) (by simp (disch := omega) only [bd_some, lm_e, if_pos, if_neg, up_ne, up_at, upf_same, upf_ne, reduceIte, or_true, true_or, Int.reduceToNat, Int.toNat_natCast, tn100, tn200]) hc
theorem c_tail (hT : T ≤ 200) (hb : ∀ i, i < T → -128 ≤ b i ∧ b i < 128) {μ : Mem} (h : tbC T b μ) {q s c i n : Nat} (hp : μ 5 4 = (q : Int)) (hi : μ 5 2 = (i : Int)) (hi9 : i < 100) (h1 : runT (fun z => z = 32) T b q s) (hc : c < 7) : f_X7_readClause_18 (n + 1) (c : Int) (if c ≤ 1 then (kap c : Int) + 2 else (kap c : Int) + 1) μ = if s = T then some (0, up (up μ 5 2 ((i : Int) + 1)) 5 4 (s : Int)) else if b s = 59 then some (1, up (up μ 5 2 ((i : Int) + 1)) 5 4 ((s : Int) + 1)) else some (0, up (up (up μ 5 2 ((i : Int) + 1)) 5 4 (s : Int)) 5 5 (1 + 4 * (s : Int) + 0)) := by
  have hsT := h1.2.1
  have tb := tbC_up (o := 5) (k := 2) (v := (i : Int) + 1) h (by decide) (by decide)
  have sk := c_skipB hT hb tb (p := q) (q := s) (by rw [up_at, upf_ne (by decide)]; exact hp) h1
  have tb2 := tbC_up (o := 5) (k := 4) (v := (s : Int)) tb (by decide) (by decide)
  have e54 : up (up μ 5 2 ((i : Int) + 1)) 5 4 (s : Int) 5 4 = (s : Int) := by rw [up_at, upf_same]
  have e31 := tb2.1
  rw [f_X7_readClause_18_e, if_pos (by omega), (kFrom_e c hc).2, if_pos (Int.le_refl _), hi, if_pos (by omega), lm_e, sk, bd_some, e54, e31]
  by_cases c1 : s = T
  · rw [if_neg (by omega), if_pos c1]
  · obtain ⟨u, u1, u2⟩ := c_byteAt tb2 hT hb s (by omega)
    have hbs := hb s (by omega)
    rw [if_pos (by omega), if_neg c1, u1, bd_some, e54]
    by_cases c2 : b s = 59
    · rw [if_pos (by omega), if_pos (by omega), lm_e, if_pos c2, up_up]
    · unfold f_X7_fail
      rw [if_neg (by omega), if_pos (by omega), lm_e, bd_some, if_pos (Or.inl rfl), if_neg c2]
theorem r_end {n : Nat} {v : Int} {ν : Mem} (h : ν 300 22 ≠ 0) : f_X11_table_56 (n + 1) v 1 ν = f_X11_table_134 v ν := by
  rw [f_X11_table_56_e, if_neg (by decide), if_neg h]
theorem r_end0 {n : Nat} {v : Int} {ν : Mem} : f_X11_table_56 (n + 1) v 0 ν = f_X11_table_134 v ν := by
  rw [f_X11_table_56_e, if_pos rfl]
theorem r_bad {ν0 ν : Mem} {i n : Nat} (hi9 : i < 100) (h0 : ν0 300 22 = 0) (hc : f_X11_clause ν0 = some (0, ν)) (hf : ν 300 22 ≠ 0) : f_X11_table_56 (n + 2) (i : Int) 1 ν0 = f_X11_table_134 ((i : Int) + 1) ν := by
  rw [f_X11_table_56_e, if_neg (by decide), if_pos h0, hc, bd_some, if_neg hf, if_pos (by omega)]
  unfold f_X11_table_92 f_X11_table_93
  rw [if_pos rfl, r_end0]
theorem r_tail (hT : T ≤ 200) {ν0 ν : Mem} (h : tbR T b ν) {q s i n : Nat} (hi9 : i < 100) (h0 : ν0 300 22 = 0) (hc : f_X11_clause ν0 = some (0, ν)) (hf : ν 300 22 = 0) (hp : ν 300 20 = (q : Int)) (h1 : runT (fun z => z = 32) T b q s) : f_X11_table_56 (n + 2) (i : Int) 1 ν0 = if s = T then f_X11_table_134 ((i : Int) + 1) (up (up ν 300 20 (s : Int)) 300 21 (s : Int)) else if b s = 59 then f_X11_table_56 (n + 1) ((i : Int) + 1) 1 (up (up (up ν 300 20 (s : Int)) 300 21 (s : Int)) 300 20 ((s : Int) + 1)) else f_X11_table_134 ((i : Int) + 1) (up (up (up (up ν 300 20 (s : Int)) 300 21 (s : Int)) 300 22 (1 + 4 * (s : Int) + 0)) 300 20 ((s : Int) + 1)) := by
  have hsT := h1.2.1
  rw [f_X11_table_56_e, if_neg (by decide), if_pos h0, hc, bd_some, if_pos hf, r_over hT h hp h1, bd_some]
  have e20 : up (up ν 300 20 (s : Int)) 300 21 (s : Int) 300 20 = (s : Int) := by simp (disch := omega) only [bd_some, lm_e, if_pos, if_neg, up_ne, up_at, upf_same, upf_ne, reduceIte, or_true, true_or, Int.reduceToNat, Int.toNat_natCast, tn100, tn200]
  have e22 : up (up ν 300 20 (s : Int)) 300 21 (s : Int) 300 22 = 0 := by simp (disch := omega) only [bd_some, lm_e, if_pos, if_neg, up_ne, up_at, upf_same, upf_ne, reduceIte, or_true, true_or, Int.reduceToNat, Int.toNat_natCast, tn100, tn200]; exact hf
  have e11 : up (up ν 300 20 (s : Int)) 300 21 (s : Int) 311 = ν 311 := by simp (disch := omega) only [bd_some, lm_e, if_pos, if_neg, up_ne, up_at, upf_same, upf_ne, reduceIte, or_true, true_or, Int.reduceToNat, Int.toNat_natCast, tn100, tn200]
  by_cases c1 : s = T
  · rw [b2i_t c1, if_neg (by decide), if_pos (by omega), if_pos c1]
    unfold f_X11_table_92 f_X11_table_93
    rw [if_pos rfl, r_end0]
  · have hv := h.2 s (by omega)
    rw [b2i_f c1, if_pos rfl, if_pos (by omega), if_neg c1]
    unfold f_X11_table_93
    rw [if_neg (by decide), e20, e11, if_pos (by omega), Int.toNat_natCast, hv]
    by_cases c2 : b s = 59
    · rw [if_pos c2, if_pos (by omega), lm_e, if_pos c2]
    · unfold f_X11_fails
      rw [if_neg c2, e22, if_pos rfl, if_pos (by omega), lm_e, bd_some, show up (up (up ν 300 20 (s : Int)) 300 21 (s : Int)) 300 22 (1 + 4 * (s : Int) + 0) 300 20 = (s : Int) by simp (disch := omega) only [bd_some, lm_e, if_pos, if_neg, up_ne, up_at, upf_same, upf_ne, reduceIte, or_true, true_or, Int.reduceToNat, Int.toNat_natCast, tn100, tn200], if_pos (by omega), lm_e, r_end (by simp (disch := omega) only [bd_some, lm_e, if_pos, if_neg, up_ne, up_at, upf_same, upf_ne, reduceIte, or_true, true_or, Int.reduceToNat, Int.toNat_natCast, tn100, tn200]; omega), if_neg c2]
/-- what one clause comes to -/
def Out1 (T : Nat) (b : Nat → Int) (i : Nat) (μ ν : Mem) : Prop :=
  ∃ r μ' ν', f_X7_readClause μ = some (r, μ') ∧ cF μ μ' ∧ rF ν ν' ∧
    ((r = 0 ∧ (∀ n, f_X11_table_56 (n + 2) (i : Int) 1 ν = f_X11_table_134 ((i : Int) + 1) ν') ∧ 1 ≤ ν' 300 22 ∧ ν' 300 22 ≤ 900 ∧ μ' 5 5 = ν' 300 22) ∨
     (r = 0 ∧ (∀ n, f_X11_table_56 (n + 2) (i : Int) 1 ν = f_X11_table_134 ((i : Int) + 1) ν') ∧ ν' 300 22 = 0 ∧ μ' 5 5 = -1 ∧ μ' 5 2 = (i : Int) + 1 ∧ numI μ' ν') ∨
     (r = 1 ∧ (∀ n, f_X11_table_56 (n + 2) (i : Int) 1 ν = f_X11_table_56 (n + 1) ((i : Int) + 1) 1 ν') ∧ ∃ p', TI T b (i + 1) p' μ' ν'))
/-- once all numbers of a clause are read -/
theorem cl_fin (hT : T ≤ 200) (hb : ∀ i, i < T → -128 ≤ b i ∧ b i < 128) {μ ν μ3 ν3 : Mem} {i q c m : Nat} (hi9 : i < 100) (hc : c < 7) (h0 : ν 300 22 = 0) (e1 : f_X7_readClause μ = f_X7_readClause_18 (m + 1) (c : Int) (if c ≤ 1 then (kap c : Int) + 2 else (kap c : Int) + 1) μ3) (e2 : f_X11_clause ν = some (0, ν3)) (fc : cF μ μ3) (fr : rF ν ν3) (t1 : tbC T b μ3) (t2 : tbR T b ν3) (hp : μ3 5 4 = (q : Int)) (hq : ν3 300 20 = (q : Int)) (hqT : q ≤ T) (h22 : ν3 300 22 = 0) (h55 : μ3 5 5 = -1) (h52 : μ3 5 2 = (i : Int)) (hn : numI μ3 ν3) (hz : 0 ≤ μ3 5 3 ∧ μ3 5 3 < 2147483648) (hz2 : ∀ c, c < 7 → (tldP (μ3 5 3) c ↔ ν3 314 (kap c) ≠ 0)) (hz3 : countTo (tldP (μ3 5 3)) 7 = (i : Int) + 1) : Out1 T b i μ ν := by
  obtain ⟨s, hs⟩ := runT_ex (P := fun z => z = 32) (T := T) (b := b) (T - q) q (by omega)
  have hsT := hs.2.1
  have ct := c_tail (c := c) (n := m) hT hb t1 hp h52 hi9 hs hc
  have rt := fun n => r_tail (n := n) (ν0 := ν) hT t2 hi9 h0 e2 h22 hq hs
  unfold Out1
  by_cases c1 : s = T
  · rw [if_pos c1] at ct
    refine ⟨0, up (up μ3 5 2 ((i : Int) + 1)) 5 4 (s : Int), up (up ν3 300 20 (s : Int)) 300 21 (s : Int), e1.trans ct, cF_tr fc (fun a a1 a2 => by simp (disch := omega) only [bd_some, lm_e, if_pos, if_neg, up_ne, up_at, upf_same, upf_ne, reduceIte, or_true, true_or, Int.reduceToNat, Int.toNat_natCast, tn100, tn200]), rF_tr fr ⟨fun a a1 a2 a3 => by simp (disch := omega) only [bd_some, lm_e, if_pos, if_neg, up_ne, up_at, upf_same, upf_ne, reduceIte, or_true, true_or, Int.reduceToNat, Int.toNat_natCast, tn100, tn200], fun j j1 j2 j3 => by simp (disch := omega) only [bd_some, lm_e, if_pos, if_neg, up_ne, up_at, upf_same, upf_ne, reduceIte, or_true, true_or, Int.reduceToNat, Int.toNat_natCast, tn100, tn200]⟩, Or.inr (Or.inl ⟨rfl, fun n => ?_, by simp (disch := omega) only [bd_some, lm_e, if_pos, if_neg, up_ne, up_at, upf_same, upf_ne, reduceIte, or_true, true_or, Int.reduceToNat, Int.toNat_natCast, tn100, tn200]; exact h22, by simp (disch := omega) only [bd_some, lm_e, if_pos, if_neg, up_ne, up_at, upf_same, upf_ne, reduceIte, or_true, true_or, Int.reduceToNat, Int.toNat_natCast, tn100, tn200]; exact h55, by simp (disch := omega) only [bd_some, lm_e, if_pos, if_neg, up_ne, up_at, upf_same, upf_ne, reduceIte, or_true, true_or, Int.reduceToNat, Int.toNat_natCast, tn100, tn200], ?_⟩)⟩
    · have := rt n
      rw [if_pos c1] at this
      exact this
    · unfold numI
      simp (disch := omega) only [bd_some, lm_e, if_pos, if_neg, up_ne, up_at, upf_same, upf_ne, reduceIte, or_true, true_or, Int.reduceToNat, Int.toNat_natCast, tn100, tn200]
      exact hn
  · rw [if_neg c1] at ct
    by_cases c2 : b s = 59
    · rw [if_pos c2] at ct
      refine ⟨1, up (up μ3 5 2 ((i : Int) + 1)) 5 4 ((s : Int) + 1), up (up (up ν3 300 20 (s : Int)) 300 21 (s : Int)) 300 20 ((s : Int) + 1), e1.trans ct, cF_tr fc (fun a a1 a2 => by simp (disch := omega) only [bd_some, lm_e, if_pos, if_neg, up_ne, up_at, upf_same, upf_ne, reduceIte, or_true, true_or, Int.reduceToNat, Int.toNat_natCast, tn100, tn200]), rF_tr fr ⟨fun a a1 a2 a3 => by simp (disch := omega) only [bd_some, lm_e, if_pos, if_neg, up_ne, up_at, upf_same, upf_ne, reduceIte, or_true, true_or, Int.reduceToNat, Int.toNat_natCast, tn100, tn200], fun j j1 j2 j3 => by simp (disch := omega) only [bd_some, lm_e, if_pos, if_neg, up_ne, up_at, upf_same, upf_ne, reduceIte, or_true, true_or, Int.reduceToNat, Int.toNat_natCast, tn100, tn200]⟩, Or.inr (Or.inr ⟨rfl, fun n => ?_, s + 1, ?_⟩)⟩
      · have := rt n
        rw [if_neg c1, if_pos c2] at this
        exact this
      · unfold TI numI
        refine ⟨⟨tbC_up (tbC_up t1 (by decide) (by decide)) (by decide) (by decide), tbR_up (tbR_up (tbR_up t2 (Or.inr (by decide)) (by decide)) (Or.inr (by decide)) (by decide)) (Or.inr (by decide)) (by decide)⟩, ?_⟩
        simp (disch := omega) only [bd_some, lm_e, if_pos, if_neg, up_ne, up_at, upf_same, upf_ne, reduceIte, or_true, true_or, Int.reduceToNat, Int.toNat_natCast, tn100, tn200]
        exact ⟨⟨by omega, by omega, by omega⟩, ⟨h55, h22, by omega⟩, hn, hz, hz2, by omega⟩
    · rw [if_neg c2] at ct
      refine ⟨0, up (up (up μ3 5 2 ((i : Int) + 1)) 5 4 (s : Int)) 5 5 (1 + 4 * (s : Int) + 0), up (up (up (up ν3 300 20 (s : Int)) 300 21 (s : Int)) 300 22 (1 + 4 * (s : Int) + 0)) 300 20 ((s : Int) + 1), e1.trans ct, cF_tr fc (fun a a1 a2 => by simp (disch := omega) only [bd_some, lm_e, if_pos, if_neg, up_ne, up_at, upf_same, upf_ne, reduceIte, or_true, true_or, Int.reduceToNat, Int.toNat_natCast, tn100, tn200]), rF_tr fr ⟨fun a a1 a2 a3 => by simp (disch := omega) only [bd_some, lm_e, if_pos, if_neg, up_ne, up_at, upf_same, upf_ne, reduceIte, or_true, true_or, Int.reduceToNat, Int.toNat_natCast, tn100, tn200], fun j j1 j2 j3 => by simp (disch := omega) only [bd_some, lm_e, if_pos, if_neg, up_ne, up_at, upf_same, upf_ne, reduceIte, or_true, true_or, Int.reduceToNat, Int.toNat_natCast, tn100, tn200]⟩, Or.inl ⟨rfl, fun n => ?_, by simp (disch := omega) only [bd_some, lm_e, if_pos, if_neg, up_ne, up_at, upf_same, upf_ne, reduceIte, or_true, true_or, Int.reduceToNat, Int.toNat_natCast, tn100, tn200]; omega, by simp (disch := omega) only [bd_some, lm_e, if_pos, if_neg, up_ne, up_at, upf_same, upf_ne, reduceIte, or_true, true_or, Int.reduceToNat, Int.toNat_natCast, tn100, tn200]; omega, by simp (disch := omega) only [bd_some, lm_e, if_pos, if_neg, up_ne, up_at, upf_same, upf_ne, reduceIte, or_true, true_or, Int.reduceToNat, Int.toNat_natCast, tn100, tn200]⟩⟩
      have := rt n
      rw [if_neg c1, if_neg c2] at this
      exact this
/-- a clause with a fault -/
theorem cl_bad {μ ν μ3 ν3 : Mem} {i : Nat} (hi9 : i < 100) (h0 : ν 300 22 = 0) (e1 : f_X7_readClause μ = some (0, μ3)) (e2 : f_X11_clause ν = some (0, ν3)) (fc : cF μ μ3) (fr : rF ν ν3) {F : Int} (hF : 1 ≤ F ∧ F ≤ 900) (h22 : ν3 300 22 = F) (h55 : μ3 5 5 = F) : Out1 T b i μ ν :=
  ⟨0, μ3, ν3, e1, fc, fr, Or.inl ⟨rfl, fun _ => r_bad hi9 h0 e2 (by omega), by omega, by omega, by omega⟩⟩
end TBL
