/-! READING CALLS -/
theorem tn100 (n : Nat) : (100 + (n : Int)).toNat = 100 + n := by omega
theorem tn200 (n : Nat) : (200 + (n : Int)).toNat = 200 + n := by omega
theorem tn45 (n : Nat) : (45 + (n : Int)).toNat = 45 + n := by omega
theorem tn40 (n : Nat) : (40 + (n : Int)).toNat = 40 + n := by omega
theorem same0_ro {f g : Mem → Option (Int × Mem)} {μ : Mem} {r : Int} (hf : f μ = some (r, μ)) (hg : g μ = some (r, μ)) (h : Inv μ) : Same0 Inv f g μ := ⟨r, μ, μ, hf, hg, rfl, rfl, h⟩
theorem zdiv_e {a b : Int} (ha : 0 ≤ a) (ha2 : a < 2147483648) (hb : 0 < b) (hb2 : b < 2147483648) : zdiv a b = a / b := by
  unfold zdiv
  have h1 : (zI a).toInt = a := zI_toInt ⟨by omega, ha2⟩
  have h2 : (zI b).toInt = b := zI_toInt ⟨by omega, hb2⟩
  rw [Int32.toInt_div, h1, h2, Int.tdiv_eq_ediv_of_nonneg ha]
  have h3 : 0 ≤ a / b := Int.ediv_nonneg ha (by omega)
  have h4 : a / b ≤ a := Int.ediv_le_self b ha
  exact zr_bmod ⟨by omega, by omega⟩
/-- the pull of a weight by a table's number -/
def pullW (w n : Int) : Int := (w * n + 9) / 10
theorem pullW_b {w n : Int} (h1 : 0 ≤ w) (h2 : w ≤ 99) (h3 : 0 ≤ n) (h4 : n ≤ 200) : 0 ≤ w * n ∧ w * n ≤ 19800 := by
  refine ⟨Int.mul_nonneg h1 h3, ?_⟩
  exact Int.le_trans (Int.mul_le_mul h2 h4 h3 (by omega)) (by decide)
noncomputable def countTo (p : Nat → Prop) : Nat → Int
  | 0 => 0
  | n + 1 => countTo p n + b2i (p n)
theorem countTo_cong {p q : Nat → Prop} : ∀ n : Nat, (∀ k, k < n → (p k ↔ q k)) → countTo p n = countTo q n
  | 0, _ => rfl
  | n + 1, h => by
    show countTo p n + b2i (p n) = countTo q n + b2i (q n)
    rw [countTo_cong n (fun k hk => h k (by omega)), b2i_cong (h n (by omega))]
theorem countTo_b (p : Nat → Prop) : ∀ n : Nat, 0 ≤ countTo p n ∧ countTo p n ≤ (n : Int)
  | 0 => ⟨Int.le_refl 0, Int.le_refl 0⟩
  | n + 1 => by
    have h := countTo_b p n
    have h2 := b2i_01 (p n)
    show 0 ≤ countTo p n + b2i (p n) ∧ countTo p n + b2i (p n) ≤ ((n + 1 : Nat) : Int)
    omega
theorem Isite_b {μ : Mem} (h : Isite μ) : μ 300 1 = μ 6 9 ∧ 0 ≤ μ 6 9 ∧ μ 6 9 ≤ 3001 ∧ μ 300 2 = μ 6 5 ∧ 0 ≤ μ 6 5 ∧ μ 6 5 ≤ 6 ∧ μ 90 1 = μ 6 5 ∧ μ 300 26 = μ 6 6 ∧ 0 ≤ μ 6 6 ∧ μ 6 6 ≤ 30 ∧ μ 90 0 = μ 6 6 ∧ μ 300 17 = μ 6 8 ∧ 0 ≤ μ 6 8 ∧ μ 6 8 ≤ 10 ∧ μ 300 16 = μ 6 10 ∧ 0 ≤ μ 6 10 ∧ μ 6 10 ≤ μ 6 9 := by
  obtain ⟨a1, a2, a3, a4, a5, a6, a7, a8, a9, a10, a11, a12, a13, a14, a15, a16, a17, -⟩ := h
  exact ⟨a1, a2, a3, a4, a5, a6, a7, a8, a9, a10, a11, a12, a13, a14, a15, a16, a17⟩
theorem Isite_g {μ : Mem} (h : Isite μ) (g : Nat) (hg : (g : Int) < μ 6 5) : μ 19 g = 200 + (g : Int) ∧ μ (200 + g) 0 = μ 301 g ∧ μ (200 + g) 1 = μ 302 g ∧ μ (200 + g) 2 = μ 303 g ∧ μ (200 + g) 3 = μ 304 g ∧ μ (200 + g) 4 = μ 305 g ∧
    1 ≤ μ 301 g ∧ μ 301 g ≤ 200 ∧ -1 ≤ μ 302 g ∧ (μ 302 g < μ 6 6 ∨ μ 302 g = 30) ∧ 0 ≤ μ 303 g ∧ μ 303 g ≤ 10000 ∧ 0 ≤ μ 304 g ∧ μ 304 g ≤ μ 6 9 ∧ 0 ≤ μ 305 g ∧ μ 305 g ≤ μ 6 9 := by
  obtain ⟨-, -, -, -, -, -, -, -, -, -, -, -, -, -, -, -, -, -, ⟨g1, -⟩, -⟩ := h
  exact g1 g hg
theorem Isite_s {μ : Mem} (h : Isite μ) (k : Nat) (hk : (k : Int) < μ 6 6) : μ 20 k = 100 + (k : Int) ∧ μ (100 + k) 0 = μ 315 k ∧ μ (100 + k) 1 = μ 316 k ∧ μ (100 + k) 2 = μ 317 k ∧ μ (100 + k) 4 = μ 318 k ∧ μ (100 + k) 5 = μ 319 k ∧
    1 ≤ μ 315 k ∧ μ 315 k ≤ 99 ∧ 0 ≤ μ 316 k ∧ μ 316 k ≤ 9 ∧ 0 ≤ μ 317 k ∧ μ 317 k ≤ 6 ∧ (μ 317 k ≠ 5 → μ 318 k = -1) ∧
    -1 ≤ μ (100 + k) 3 ∧ μ (100 + k) 3 < μ 6 5 := by
  obtain ⟨-, -, -, -, -, -, -, -, -, -, -, -, -, -, -, -, -, -, -, ⟨t1, -⟩, -⟩ := h
  exact t1 k hk
theorem Isite_w {μ : Mem} (h : Isite μ) : Iwork (μ 6 6) (μ 6 5) (μ 6 8) μ := by
  obtain ⟨-, -, -, -, -, -, -, -, -, -, -, -, -, -, -, -, -, -, -, -, w⟩ := h
  exact w
/-- the first gang at a work -/
def firstW (w : Nat → Int) (G a r : Int) : Prop := (r = -1 ∧ ∀ g : Nat, (g : Int) < G → w g ≠ a) ∨ (0 ≤ r ∧ r < G ∧ w r.toNat = a ∧ ∀ g : Nat, (g : Int) < r → w g ≠ a)
theorem e_worker_2 {μ : Mem} {a r : Int} (hG : μ 300 2 ≤ 6) (hr : firstW (μ 302) (μ 300 2) a r) : ∀ (n : Nat) (v : Int), 0 ≤ v → (0 ≤ r → v ≤ r) → μ 300 2 - v < (n : Int) → v ≤ μ 300 2 → f_X11_worker_2 n a v μ = some (r, μ)
  | 0, v, h0, h1, h2, h3 => by
    rcases hr with ⟨rfl, -⟩ | ⟨q1, q2, -, -⟩
    · exfalso; omega
    · exfalso; omega
  | n + 1, v, h0, h1, h2, h3 => by
    rw [f_X11_worker_2_e]
    rcases hr with ⟨rfl, q⟩ | ⟨q1, q2, q3, q4⟩
    · by_cases hv : μ 300 2 ≤ v
      · simp (disch := omega) only [bd_some, lm_e, if_pos, if_neg, up_ne, up_at, upf_same, upf_ne, reduceIte, or_true, true_or]
      · have := q v.toNat (by omega)
        simp (disch := omega) only [bd_some, lm_e, if_pos, if_neg, up_ne, up_at, upf_same, upf_ne, reduceIte, or_true, true_or]
        exact e_worker_2 hG (Or.inl ⟨rfl, q⟩) n (v + 1) (by omega) (by omega) (by omega) (by omega)
    · by_cases hv : v = r
      · subst hv
        simp (disch := omega) only [bd_some, lm_e, if_pos, if_neg, up_ne, up_at, upf_same, upf_ne, reduceIte, or_true, true_or]
      · have := q4 v.toNat (by omega)
        simp (disch := omega) only [bd_some, lm_e, if_pos, if_neg, up_ne, up_at, upf_same, upf_ne, reduceIte, or_true, true_or]
        exact e_worker_2 hG (Or.inr ⟨q1, q2, q3, q4⟩) n (v + 1) (by omega) (by omega) (by omega) (by omega)
theorem e_worker {μ : Mem} {a r : Int} (hG0 : 0 ≤ μ 300 2) (hG : μ 300 2 ≤ 6) (hr : firstW (μ 302) (μ 300 2) a r) : f_X11_worker μ a = some (r, μ) := by
  unfold f_X11_worker
  exact e_worker_2 hG hr 64 0 (by omega) (by omega) (by omega) (by omega)
theorem worker_of {μ : Mem} (h : Isite μ) (k : Nat) (hk : (k : Int) < μ 6 6) : firstW (μ 302) (μ 6 5) (k : Int) (μ (100 + k) 3) := by
  obtain ⟨w1, w2, w3, w4⟩ := Isite_w h
  obtain ⟨-, -, -, -, -, -, -, -, -, -, -, -, -, s1, s2⟩ := Isite_s h k hk
  by_cases hc : μ (100 + k) 3 = -1
  · refine Or.inl ⟨hc, fun g hg he => ?_⟩
    have := (w1 k g hk hg).mpr he
    omega
  · refine Or.inr ⟨by omega, s2, ?_, fun g hg he => ?_⟩
    · exact (w1 k (μ (100 + k) 3).toNat hk (by omega)).mp (by omega)
    · have := (w1 k g hk (by omega)).mpr he
      omega
theorem e_numberAt {μ : Mem} {i : Int} (h0 : 0 ≤ i) (h1 : i < 9) : f_X6_numberAt μ i = some (μ 17 i.toNat, μ) := by
  simp (disch := omega) only [f_X6_numberAt, bd_some, lm_e, if_pos, if_neg, up_ne, up_at, upf_same, upf_ne, reduceIte, or_true, true_or]
theorem e_pullOfWeight {μ : Mem} {w i : Int} (hw : 1 ≤ w) (hw2 : w ≤ 99) (h0 : 0 ≤ i) (h1 : i < 9) (ht : 1 ≤ μ 17 i.toNat ∧ μ 17 i.toNat ≤ 200) : f_X6_pullOfWeight μ w i = some (pullW w (μ 17 i.toNat), μ) := by
  have hb := pullW_b (w := w) (n := μ 17 i.toNat) (by omega) hw2 (by omega) ht.2
  unfold f_X6_pullOfWeight f_X10_upwards
  rw [e_numberAt h0 h1]
  simp (disch := omega) only [bd_some, lm_e, if_pos, if_neg, up_ne, up_at, upf_same, upf_ne, reduceIte, or_true, true_or]
  rw [zdiv_e (by omega) (by omega) (by decide) (by decide), show w * μ 17 i.toNat + 10 - 1 = w * μ 17 i.toNat + 9 by omega]
  rfl
theorem e_pull40 {μ : Mem} {s i : Int} {w0 w1 : Int} (hs : 0 ≤ s ∧ s < 30) (hw : 1 ≤ μ 315 s.toNat) (hw2 : μ 315 s.toNat ≤ 99) (hi : w1 + w0 = i) (h0 : 0 ≤ i) (h1 : i < 9) (ht : 1 ≤ μ 312 i.toNat ∧ μ 312 i.toNat ≤ 200) : f_X11_pull_40 s w0 w1 μ = some (pullW (μ 315 s.toNat) (μ 312 i.toNat), μ) := by
  have hb := pullW_b (w := μ 315 s.toNat) (n := μ 312 i.toNat) (by omega) hw2 (by omega) ht.2
  unfold f_X11_pull_40
  rw [hi]
  simp (disch := omega) only [bd_some, lm_e, if_pos, if_neg, up_ne, up_at, upf_same, upf_ne, reduceIte, or_true, true_or]
  rw [zdiv_e (by omega) (by omega) (by decide) (by decide)]
  rfl
/-- what is pulled next, said once -/
def pullS (w st : Int) (t : Nat → Int) (wet : Int) : Int := if st = 3 then pullW w (if wet = 0 then t 2 else t 3) else if st = 1 ∨ st = 4 then pullW w (if wet = 0 then t 0 else t 1) else 0
theorem e_pullOf {μ : Mem} (hs : Isite μ) (ht : Itab (μ 17) (μ 312)) (k : Nat) (hk : (k : Int) < μ 6 6) (wet : Int) : f_X6_pullOf μ (100 + (k : Int)) wet = some (pullS (μ 315 k) (μ 317 k) (μ 17) wet, μ) := by
  obtain ⟨-, -, -, -, -, -, -, -, b1, b2, b3, -⟩ := Isite_b hs
  obtain ⟨s0, s1, s2, s3, s4, s5, s6, s7, s8, s9, s10, s11, -⟩ := Isite_s hs k hk
  have t0 := ht 0 (by decide)
  have t1 := ht 1 (by decide)
  have t2 := ht 2 (by decide)
  have t3 := ht 3 (by decide)
  have p0 : f_X6_pullOfWeight μ (μ 315 k) 0 = some (pullW (μ 315 k) (μ 17 0), μ) := e_pullOfWeight s6 s7 (by decide) (by decide) ⟨t0.2.1, t0.2.2.1⟩
  have p1 : f_X6_pullOfWeight μ (μ 315 k) 1 = some (pullW (μ 315 k) (μ 17 1), μ) := e_pullOfWeight s6 s7 (by decide) (by decide) ⟨t1.2.1, t1.2.2.1⟩
  have p2 : f_X6_pullOfWeight μ (μ 315 k) 2 = some (pullW (μ 315 k) (μ 17 2), μ) := e_pullOfWeight s6 s7 (by decide) (by decide) ⟨t2.2.1, t2.2.2.1⟩
  have p3 : f_X6_pullOfWeight μ (μ 315 k) 3 = some (pullW (μ 315 k) (μ 17 3), μ) := e_pullOfWeight s6 s7 (by decide) (by decide) ⟨t3.2.1, t3.2.2.1⟩
  unfold f_X6_pullOf f_X4_wantsHaul pullS
  by_cases hw : wet = 0
  · by_cases h3 : μ 317 k = 3
    · simp (disch := omega) only [tn100, s3, s1, p2, bd_some, lm_e, if_pos, if_neg, up_ne, up_at, upf_same, upf_ne, reduceIte, or_true, true_or]
    · by_cases h1 : μ 317 k = 1
      · simp (disch := omega) only [tn100, s3, s1, p0, bd_some, lm_e, if_pos, if_neg, up_ne, up_at, upf_same, upf_ne, reduceIte, or_true, true_or]
      · by_cases h4 : μ 317 k = 4
        · simp (disch := omega) only [tn100, s3, s1, p0, bd_some, lm_e, if_pos, if_neg, up_ne, up_at, upf_same, upf_ne, reduceIte, or_true, true_or]
        · simp (disch := omega) only [tn100, s3, s1, bd_some, lm_e, if_pos, if_neg, up_ne, up_at, upf_same, upf_ne, reduceIte, or_true, true_or]
  · by_cases h3 : μ 317 k = 3
    · simp (disch := omega) only [tn100, s3, s1, p3, bd_some, lm_e, if_pos, if_neg, up_ne, up_at, upf_same, upf_ne, reduceIte, or_true, true_or]
    · by_cases h1 : μ 317 k = 1
      · simp (disch := omega) only [tn100, s3, s1, p1, bd_some, lm_e, if_pos, if_neg, up_ne, up_at, upf_same, upf_ne, reduceIte, or_true, true_or]
      · by_cases h4 : μ 317 k = 4
        · simp (disch := omega) only [tn100, s3, s1, p1, bd_some, lm_e, if_pos, if_neg, up_ne, up_at, upf_same, upf_ne, reduceIte, or_true, true_or]
        · simp (disch := omega) only [tn100, s3, s1, bd_some, lm_e, if_pos, if_neg, up_ne, up_at, upf_same, upf_ne, reduceIte, or_true, true_or]
theorem e_pull {μ : Mem} (hs : Isite μ) (ht : Itab (μ 17) (μ 312)) {s : Int} (h0 : 0 ≤ s) (h1 : s < μ 6 6) (st wet : Int) : f_X11_pull μ s st wet = some (pullS (μ 315 s.toNat) st (μ 17) wet, μ) := by
  obtain ⟨-, -, -, -, -, -, -, -, b1, b2, b3, -⟩ := Isite_b hs
  obtain ⟨s0, s1, s2, s3, s4, s5, s6, s7, s8, s9, s10, s11, -⟩ := Isite_s hs s.toNat (by omega)
  have t0 := ht 0 (by decide)
  have t1 := ht 1 (by decide)
  have t2 := ht 2 (by decide)
  have t3 := ht 3 (by decide)
  have p0 : f_X11_pull_40 s 0 0 μ = some (pullW (μ 315 s.toNat) (μ 17 0), μ) := by
    rw [e_pull40 (i := 0) ⟨h0, by omega⟩ s6 s7 (by decide) (by decide) (by decide) (by rw [show (0 : Int).toNat = 0 from rfl]; omega), show (0 : Int).toNat = 0 from rfl, t0.1]
  have p1 : f_X11_pull_40 s 1 0 μ = some (pullW (μ 315 s.toNat) (μ 17 1), μ) := by
    rw [e_pull40 (i := 1) ⟨h0, by omega⟩ s6 s7 (by decide) (by decide) (by decide) (by rw [show (1 : Int).toNat = 1 from rfl]; omega), show (1 : Int).toNat = 1 from rfl, t1.1]
  have p2 : f_X11_pull_40 s 0 2 μ = some (pullW (μ 315 s.toNat) (μ 17 2), μ) := by
    rw [e_pull40 (i := 2) ⟨h0, by omega⟩ s6 s7 (by decide) (by decide) (by decide) (by rw [show (2 : Int).toNat = 2 from rfl]; omega), show (2 : Int).toNat = 2 from rfl, t2.1]
  have p3 : f_X11_pull_40 s 1 2 μ = some (pullW (μ 315 s.toNat) (μ 17 3), μ) := by
    rw [e_pull40 (i := 3) ⟨h0, by omega⟩ s6 s7 (by decide) (by decide) (by decide) (by rw [show (3 : Int).toNat = 3 from rfl]; omega), show (3 : Int).toNat = 3 from rfl, t3.1]
  unfold f_X11_pull f_X11_pull_17 f_X11_pull_31 pullS
  by_cases hw : wet = 0
  · by_cases h3 : st = 3
    · simp (disch := omega) only [p2, bd_some, lm_e, if_pos, if_neg, up_ne, up_at, upf_same, upf_ne, reduceIte, or_true, true_or]
    · by_cases h1 : st = 1
      · simp (disch := omega) only [p0, bd_some, lm_e, if_pos, if_neg, up_ne, up_at, upf_same, upf_ne, reduceIte, or_true, true_or]
      · by_cases h4 : st = 4
        · simp (disch := omega) only [p0, bd_some, lm_e, if_pos, if_neg, up_ne, up_at, upf_same, upf_ne, reduceIte, or_true, true_or]
        · simp (disch := omega) only [bd_some, lm_e, if_pos, if_neg, up_ne, up_at, upf_same, upf_ne, reduceIte, or_true, true_or]
  · by_cases h3 : st = 3
    · simp (disch := omega) only [p3, bd_some, lm_e, if_pos, if_neg, up_ne, up_at, upf_same, upf_ne, reduceIte, or_true, true_or]
    · by_cases h1 : st = 1
      · simp (disch := omega) only [p1, bd_some, lm_e, if_pos, if_neg, up_ne, up_at, upf_same, upf_ne, reduceIte, or_true, true_or]
      · by_cases h4 : st = 4
        · simp (disch := omega) only [p1, bd_some, lm_e, if_pos, if_neg, up_ne, up_at, upf_same, upf_ne, reduceIte, or_true, true_or]
        · simp (disch := omega) only [bd_some, lm_e, if_pos, if_neg, up_ne, up_at, upf_same, upf_ne, reduceIte, or_true, true_or]
theorem e_stonesThatAre_4 {μ : Mem} (hs : Isite μ) (st : Int) : ∀ (d n : Nat) (v2 v3 : Int), 0 ≤ v3 → v3 + (d : Int) = μ 6 6 → d < n → 0 ≤ v2 → v2 ≤ v3 → f_X3_stonesThatAre_4 n st v2 v3 μ = some (v2 + (countTo (fun k => μ 317 k = st) (μ 6 6).toNat - countTo (fun k => μ 317 k = st) v3.toNat), μ)
  | 0, n + 1, v2, v3, h0, h1, h2, h3, h4 => by
    rw [f_X3_stonesThatAre_4_e]
    have : v3.toNat = (μ 6 6).toNat := by omega
    rw [this]
    simp (disch := omega) only [bd_some, lm_e, if_pos, if_neg, up_ne, up_at, upf_same, upf_ne, reduceIte, or_true, true_or]
    rw [show v2 + (countTo (fun k => μ 317 k = st) (μ 6 6).toNat - countTo (fun k => μ 317 k = st) (μ 6 6).toNat) = v2 by omega]
  | d + 1, n + 1, v2, v3, h0, h1, h2, h3, h4 => by
    rw [f_X3_stonesThatAre_4_e]
    obtain ⟨-, -, -, -, -, -, -, -, b1, b2, b3, -⟩ := Isite_b hs
    obtain ⟨s0, s1, s2, s3, -⟩ := Isite_s hs v3.toNat (by omega)
    have e1 : countTo (fun k => μ 317 k = st) (v3 + 1).toNat = countTo (fun k => μ 317 k = st) v3.toNat + b2i (μ 317 v3.toNat = st) := by
      rw [show (v3 + 1).toNat = v3.toNat + 1 by omega]; rfl
    by_cases hc : μ 317 v3.toNat = st
    · simp (disch := omega) only [s0, tn100, s3, bd_some, lm_e, if_pos, if_neg, up_ne, up_at, upf_same, upf_ne, reduceIte, or_true, true_or]
      rw [e_stonesThatAre_4 hs st d n (v2 + 1) (v3 + 1) (by omega) (by omega) (by omega) (by omega) (by omega), e1, b2i_t hc]
      rw [show v2 + 1 + (countTo (fun k => μ 317 k = st) (μ 6 6).toNat - (countTo (fun k => μ 317 k = st) v3.toNat + 1)) = v2 + (countTo (fun k => μ 317 k = st) (μ 6 6).toNat - countTo (fun k => μ 317 k = st) v3.toNat) by omega]
    · simp (disch := omega) only [s0, tn100, s3, bd_some, lm_e, if_pos, if_neg, up_ne, up_at, upf_same, upf_ne, reduceIte, or_true, true_or]
      rw [e_stonesThatAre_4 hs st d n v2 (v3 + 1) (by omega) (by omega) (by omega) (by omega) (by omega), e1, b2i_f hc]
      rw [show (countTo (fun k => μ 317 k = st) v3.toNat + 0) = countTo (fun k => μ 317 k = st) v3.toNat by omega]
theorem e_count_115 {μ : Mem} (hs : Isite μ) (st : Int) : ∀ (d n : Nat) (v2 v3 : Int), 0 ≤ v3 → v3 + (d : Int) = μ 6 6 → d < n → 0 ≤ v2 → v2 ≤ v3 → f_X11_count_115 n st v2 v3 μ = some (v2 + (countTo (fun k => μ 317 k = st) (μ 6 6).toNat - countTo (fun k => μ 317 k = st) v3.toNat), μ)
  | 0, n + 1, v2, v3, h0, h1, h2, h3, h4 => by
    rw [f_X11_count_115_e]
    obtain ⟨-, -, -, -, -, -, -, b0, b1, b2, b3, -⟩ := Isite_b hs
    have : v3.toNat = (μ 6 6).toNat := by omega
    rw [this]
    simp (disch := omega) only [bd_some, lm_e, if_pos, if_neg, up_ne, up_at, upf_same, upf_ne, reduceIte, or_true, true_or]
    rw [show v2 + (countTo (fun k => μ 317 k = st) (μ 6 6).toNat - countTo (fun k => μ 317 k = st) (μ 6 6).toNat) = v2 by omega]
  | d + 1, n + 1, v2, v3, h0, h1, h2, h3, h4 => by
    rw [f_X11_count_115_e]
    obtain ⟨-, -, -, -, -, -, -, b0, b1, b2, b3, -⟩ := Isite_b hs
    have e1 : countTo (fun k => μ 317 k = st) (v3 + 1).toNat = countTo (fun k => μ 317 k = st) v3.toNat + b2i (μ 317 v3.toNat = st) := by
      rw [show (v3 + 1).toNat = v3.toNat + 1 by omega]; rfl
    by_cases hc : μ 317 v3.toNat = st
    · simp (disch := omega) only [bd_some, lm_e, if_pos, if_neg, up_ne, up_at, upf_same, upf_ne, reduceIte, or_true, true_or]
      rw [e_count_115 hs st d n (v2 + 1) (v3 + 1) (by omega) (by omega) (by omega) (by omega) (by omega), e1, b2i_t hc]
      rw [show v2 + 1 + (countTo (fun k => μ 317 k = st) (μ 6 6).toNat - (countTo (fun k => μ 317 k = st) v3.toNat + 1)) = v2 + (countTo (fun k => μ 317 k = st) (μ 6 6).toNat - countTo (fun k => μ 317 k = st) v3.toNat) by omega]
    · simp (disch := omega) only [bd_some, lm_e, if_pos, if_neg, up_ne, up_at, upf_same, upf_ne, reduceIte, or_true, true_or]
      rw [show v2 + 0 = v2 by omega, e_count_115 hs st d n v2 (v3 + 1) (by omega) (by omega) (by omega) (by omega) (by omega), e1, b2i_f hc]
      rw [show (countTo (fun k => μ 317 k = st) v3.toNat + 0) = countTo (fun k => μ 317 k = st) v3.toNat by omega]
theorem e_stonesThatAre {μ : Mem} (hs : Isite μ) (st : Int) : f_X3_stonesThatAre μ st = some (countTo (fun k => μ 317 k = st) (μ 6 6).toNat, μ) := by
  obtain ⟨-, -, -, -, -, -, -, b0, b1, b2, b3, -⟩ := Isite_b hs
  unfold f_X3_stonesThatAre
  rw [e_stonesThatAre_4 hs st (μ 6 6).toNat 64 0 0 (by decide) (by omega) (by omega) (by decide) (by decide)]
  rw [show 0 + (countTo (fun k => μ 317 k = st) (μ 6 6).toNat - countTo (fun k => μ 317 k = st) (0 : Int).toNat) = countTo (fun k => μ 317 k = st) (μ 6 6).toNat from by
    rw [show countTo (fun k => μ 317 k = st) (0 : Int).toNat = 0 from rfl]; omega]
theorem e_count {μ : Mem} (hs : Isite μ) (st : Int) : f_X11_count_115 64 st 0 0 μ = some (countTo (fun k => μ 317 k = st) (μ 6 6).toNat, μ) := by
  obtain ⟨-, -, -, -, -, -, -, b0, b1, b2, b3, -⟩ := Isite_b hs
  rw [e_count_115 hs st (μ 6 6).toNat 64 0 0 (by decide) (by omega) (by omega) (by decide) (by decide)]
  rw [show 0 + (countTo (fun k => μ 317 k = st) (μ 6 6).toNat - countTo (fun k => μ 317 k = st) (0 : Int).toNat) = countTo (fun k => μ 317 k = st) (μ 6 6).toNat from by
    rw [show countTo (fun k => μ 317 k = st) (0 : Int).toNat = 0 from rfl]; omega]
