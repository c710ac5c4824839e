/-! THE SITE of two memories: the class's part of μ, the reference's of ν -/
def Igang2 (G now S : Int) (μ ν : Mem) : Prop :=
  (∀ g : Nat, (g : Int) < G → μ 19 g = 200 + (g : Int) ∧ μ (200 + g) 0 = ν 301 g ∧ μ (200 + g) 1 = ν 302 g ∧ μ (200 + g) 2 = ν 303 g ∧ μ (200 + g) 3 = ν 304 g ∧ μ (200 + g) 4 = ν 305 g ∧
    1 ≤ ν 301 g ∧ ν 301 g ≤ 200 ∧ -1 ≤ ν 302 g ∧ (ν 302 g < S ∨ ν 302 g = 30) ∧ 0 ≤ ν 303 g ∧ ν 303 g ≤ 10000 ∧ 0 ≤ ν 304 g ∧ ν 304 g ≤ now ∧ 0 ≤ ν 305 g ∧ ν 305 g ≤ now) ∧
  (∀ g : Nat, G ≤ (g : Int) → g < 6 → ν 302 g = -1 ∧ ν 303 g = 0 ∧ ν 304 g = 0 ∧ ν 305 g = 0)
def Istone2 (S G : Int) (μ ν : Mem) : Prop :=
  (∀ k : Nat, (k : Int) < S → μ 20 k = 100 + (k : Int) ∧ μ (100 + k) 0 = ν 315 k ∧ μ (100 + k) 1 = ν 316 k ∧ μ (100 + k) 2 = ν 317 k ∧ μ (100 + k) 4 = ν 318 k ∧ μ (100 + k) 5 = ν 319 k ∧
    1 ≤ ν 315 k ∧ ν 315 k ≤ 99 ∧ 0 ≤ ν 316 k ∧ ν 316 k ≤ 9 ∧ 0 ≤ ν 317 k ∧ ν 317 k ≤ 6 ∧ (ν 317 k ≠ 5 → ν 318 k = -1) ∧
    -1 ≤ μ (100 + k) 3 ∧ μ (100 + k) 3 < G) ∧
  (∀ k : Nat, S ≤ (k : Int) → k < 30 → ν 317 k = 0)
def Iwork2 (S G high : Int) (μ ν : Mem) : Prop :=
  (∀ k g : Nat, (k : Int) < S → (g : Int) < G → (μ (100 + k) 3 = (g : Int) ↔ ν 302 g = (k : Int))) ∧
  (∀ g : Nat, (g : Int) < G → ∀ k : Nat, (k : Int) < S → ν 302 g = (k : Int) → ν 317 k ≤ 4) ∧
  (∀ g h : Nat, (g : Int) < G → (h : Int) < G → ν 302 g = 30 → ν 302 h = 30 → g = h) ∧
  (∀ g : Nat, (g : Int) < G → ν 302 g = 30 → high ≤ 9)
def Inum2 (μ ν : Mem) : Prop :=
  ν 300 1 = μ 6 9 ∧ 0 ≤ μ 6 9 ∧ μ 6 9 ≤ 3001 ∧ ν 300 2 = μ 6 5 ∧ 0 ≤ μ 6 5 ∧ μ 6 5 ≤ 6 ∧ μ 90 1 = μ 6 5 ∧ ν 300 26 = μ 6 6 ∧ 0 ≤ μ 6 6 ∧ μ 6 6 ≤ 30 ∧ μ 90 0 = μ 6 6 ∧
  ν 300 17 = μ 6 8 ∧ 0 ≤ μ 6 8 ∧ μ 6 8 ≤ 10 ∧ ν 300 16 = μ 6 10 ∧ 0 ≤ μ 6 10 ∧ μ 6 10 ≤ μ 6 9
def Isite2 (μ ν : Mem) : Prop :=
  Inum2 μ ν ∧ μ 6 7 = sumTo (ν 301) (μ 6 5).toNat ∧
  Igang2 (μ 6 5) (μ 6 9) (μ 6 6) μ ν ∧ Istone2 (μ 6 6) (μ 6 5) μ ν ∧ Iwork2 (μ 6 6) (μ 6 5) (μ 6 8) μ ν
theorem Isite_2 {μ : Mem} : Isite μ ↔ Isite2 μ μ := by
  constructor
  · rintro ⟨a1, a2, a3, a4, a5, a6, a7, a8, a9, a10, a11, a12, a13, a14, a15, a16, a17, a18, b⟩
    exact ⟨⟨a1, a2, a3, a4, a5, a6, a7, a8, a9, a10, a11, a12, a13, a14, a15, a16, a17⟩, a18, b⟩
  · rintro ⟨⟨a1, a2, a3, a4, a5, a6, a7, a8, a9, a10, a11, a12, a13, a14, a15, a16, a17⟩, a18, b⟩
    exact ⟨a1, a2, a3, a4, a5, a6, a7, a8, a9, a10, a11, a12, a13, a14, a15, a16, a17, a18, b⟩
/-- ids of the class's part of the site, of the reference's -/
def sC (a : Nat) : Prop := a = 6 ∨ a = 19 ∨ a = 20 ∨ a = 90 ∨ (100 ≤ a ∧ a < 300)
def sR (a : Nat) : Prop := (301 ≤ a ∧ a ≤ 305) ∨ (315 ≤ a ∧ a ≤ 319)
theorem Isite2_fr {μ ν μ' ν' : Mem} (h : Isite2 μ ν) (hc : ∀ a, sC a → μ' a = μ a) (hr : ∀ a, sR a → ν' a = ν a) (h1 : ν' 300 1 = ν 300 1) (h2 : ν' 300 2 = ν 300 2) (h3 : ν' 300 16 = ν 300 16) (h4 : ν' 300 17 = ν 300 17) (h5 : ν' 300 26 = ν 300 26) : Isite2 μ' ν' := by
  unfold sC at hc
  unfold sR at hr
  have e6 := hc 6 (by omega)
  have e19 := hc 19 (by omega)
  have e20 := hc 20 (by omega)
  have e90 := hc 90 (by omega)
  have e1 := hr 301 (by omega)
  have e2 := hr 302 (by omega)
  have e3 := hr 303 (by omega)
  have e4 := hr 304 (by omega)
  have e5 := hr 305 (by omega)
  have s1 := hr 315 (by omega)
  have s2 := hr 316 (by omega)
  have s3 := hr 317 (by omega)
  have s4 := hr 318 (by omega)
  have s5 := hr 319 (by omega)
  obtain ⟨n0, hm, ⟨g1, g2⟩, ⟨t1, t2⟩, w1, w2, w3, w4⟩ := h
  have n1 := n0
  unfold Inum2 at n1
  have hg : ∀ g : Nat, (g : Int) < μ 6 5 → μ' (200 + g) = μ (200 + g) := fun g hg => hc _ (by omega)
  have hk : ∀ k : Nat, (k : Int) < μ 6 6 → μ' (100 + k) = μ (100 + k) := fun k hk => hc _ (by omega)
  unfold Isite2 Inum2 Igang2 Istone2 Iwork2
  rw [h1, h2, h3, h4, h5, e6, e90, e1, e2, e3, e4, e5, s1, s2, s3, s4, s5, e19, e20]
  refine ⟨n0, hm, ⟨fun g q => ?_, g2⟩, ⟨fun k q => ?_, t2⟩, fun k g q q2 => ?_, w2, w3, w4⟩
  · rw [hg g q]; exact g1 g q
  · rw [hk k q]; exact t1 k q
  · rw [hk k q]; exact w1 k g q q2
/-- left, laid, still of one gang -/
theorem Isite2_gang {μ ν μ' ν' : Mem} (h : Isite2 μ ν) (g : Nat) (hg : (g : Int) < μ 6 5) (hc : ∀ a, sC a → a ≠ 200 + g → μ' a = μ a) (hr : ∀ a, sR a → a ≠ 303 → a ≠ 305 → ν' a = ν a) (h3 : ∀ j, j ≠ g → ν' 303 j = ν 303 j) (h5 : ∀ j, j ≠ g → ν' 305 j = ν 305 j) (h300 : ν' 300 = ν 300)
    (m0 : μ' (200 + g) 0 = μ (200 + g) 0) (m1 : μ' (200 + g) 1 = μ (200 + g) 1) (m2 : μ' (200 + g) 2 = ν' 303 g) (m3 : μ' (200 + g) 3 = μ (200 + g) 3) (m4 : μ' (200 + g) 4 = ν' 305 g) (l0 : 0 ≤ ν' 303 g) (l1 : ν' 303 g ≤ 10000) (t0 : 0 ≤ ν' 305 g) (t1 : ν' 305 g ≤ μ 6 9) : Isite2 μ' ν' := by
  unfold sC at hc
  unfold sR at hr
  have e6 := hc 6 (by omega) (by omega)
  have e19 := hc 19 (by omega) (by omega)
  have e20 := hc 20 (by omega) (by omega)
  have e90 := hc 90 (by omega) (by omega)
  have e1 := hr 301 (by omega) (by omega) (by omega)
  have e2 := hr 302 (by omega) (by omega) (by omega)
  have e4 := hr 304 (by omega) (by omega) (by omega)
  have s1 := hr 315 (by omega) (by omega) (by omega)
  have s2 := hr 316 (by omega) (by omega) (by omega)
  have s3 := hr 317 (by omega) (by omega) (by omega)
  have s4 := hr 318 (by omega) (by omega) (by omega)
  have s5 := hr 319 (by omega) (by omega) (by omega)
  obtain ⟨n0, hm, ⟨g1, g2⟩, ⟨q1, q2⟩, w1, w2, w3, w4⟩ := h
  have n1 := n0
  unfold Inum2 at n1
  have hk : ∀ k : Nat, (k : Int) < μ 6 6 → μ' (100 + k) = μ (100 + k) := fun k hk => hc _ (by omega) (by omega)
  unfold Isite2 Inum2 Igang2 Istone2 Iwork2
  rw [h300, e6, e90, e1, e2, e4, s1, s2, s3, s4, s5, e19, e20]
  refine ⟨n0, hm, ⟨fun j q => ?_, fun j q q6 => ?_⟩, ⟨fun k q => ?_, q2⟩, fun k g q q2 => ?_, w2, w3, w4⟩
  · obtain ⟨z0, z1, z2, z3, z4, z5, z6, z7, z8, z9, z10, z11, z12, z13, z14, z15⟩ := g1 j q
    by_cases hj : j = g
    · subst hj
      rw [m0, m1, m2, m3, m4]
      exact ⟨z0, z1, z2, rfl, z4, rfl, z6, z7, z8, z9, l0, l1, z12, z13, t0, t1⟩
    · rw [hc (200 + j) (by omega) (by omega), h3 j hj, h5 j hj]
      exact ⟨z0, z1, z2, z3, z4, z5, z6, z7, z8, z9, z10, z11, z12, z13, z14, z15⟩
  · rw [h3 j (by omega), h5 j (by omega)]
    exact g2 j q q6
  · rw [hk k q]; exact q1 k q
  · rw [hk k q]; exact w1 k g q q2
/-- a gang takes a stone -/
theorem Isite2_take {μ ν μ' ν' : Mem} (h : Isite2 μ ν) (g : Nat) (hg : (g : Int) < μ 6 5) (k : Nat) (hk : (k : Int) < μ 6 6) (idle : ν 302 g = -1) (free : μ (100 + k) 3 = -1) (hst : ν 317 k ≤ 4) (hc : ∀ a, sC a → a ≠ 200 + g → a ≠ 100 + k → μ' a = μ a) (hr : ∀ a, sR a → a ≠ 302 → a ≠ 303 → ν' a = ν a) (h2 : ∀ j, j ≠ g → ν' 302 j = ν 302 j) (h3 : ∀ j, j ≠ g → ν' 303 j = ν 303 j) (h300 : ν' 300 = ν 300)
    (m1 : μ' (200 + g) 1 = (k : Int)) (v1 : ν' 302 g = (k : Int)) (m2 : μ' (200 + g) 2 = ν' 303 g) (mo : ∀ j, j ≠ 1 → j ≠ 2 → μ' (200 + g) j = μ (200 + g) j) (l0 : 0 ≤ ν' 303 g) (l1 : ν' 303 g ≤ 10000)
    (k3 : μ' (100 + k) 3 = (g : Int)) (ko : ∀ j, j ≠ 3 → μ' (100 + k) j = μ (100 + k) j) : Isite2 μ' ν' := by
  unfold sC at hc
  unfold sR at hr
  obtain ⟨n0, hm, ⟨g1, g2⟩, ⟨q1, q2⟩, w1, w2, w3, w4⟩ := h
  have n1 := n0
  unfold Inum2 at n1
  have e6 := hc 6 (by omega) (by omega) (by omega)
  have e19 := hc 19 (by omega) (by omega) (by omega)
  have e20 := hc 20 (by omega) (by omega) (by omega)
  have e90 := hc 90 (by omega) (by omega) (by omega)
  have e1 := hr 301 (by omega) (by omega) (by omega)
  have e4 := hr 304 (by omega) (by omega) (by omega)
  have e5 := hr 305 (by omega) (by omega) (by omega)
  have s1 := hr 315 (by omega) (by omega) (by omega)
  have s2 := hr 316 (by omega) (by omega) (by omega)
  have s3 := hr 317 (by omega) (by omega) (by omega)
  have s4 := hr 318 (by omega) (by omega) (by omega)
  have s5 := hr 319 (by omega) (by omega) (by omega)
  unfold Isite2 Inum2 Igang2 Istone2 Iwork2
  rw [h300, e6, e90, e1, e4, e5, s1, s2, s3, s4, s5, e19, e20]
  refine ⟨n0, hm, ⟨fun j q => ?_, fun j q q6 => ?_⟩, ⟨fun i q => ?_, q2⟩, fun i j q q2 => ?_, fun j q i q2 he => ?_, fun i j q q2 he he2 => ?_, fun j q he => ?_⟩
  · obtain ⟨z0, z1, z2, z3, z4, z5, z6, z7, z8, z9, z10, z11, z12, z13, z14, z15⟩ := g1 j q
    by_cases hj : j = g
    · subst hj
      rw [mo 0 (by decide) (by decide), m1, m2, mo 3 (by decide) (by decide), mo 4 (by decide) (by decide), v1]
      exact ⟨z0, z1, rfl, rfl, z4, z5, z6, z7, by omega, Or.inl hk, l0, l1, z12, z13, z14, z15⟩
    · rw [hc (200 + j) (by omega) (by omega) (by omega), h3 j hj, h2 j hj]
      exact ⟨z0, z1, z2, z3, z4, z5, z6, z7, z8, z9, z10, z11, z12, z13, z14, z15⟩
  · rw [h2 j (by omega), h3 j (by omega)]
    exact g2 j q q6
  · obtain ⟨z0, z1, z2, z3, z4, z5, z6, z7, z8, z9, z10, z11, z12, z13, z14⟩ := q1 i q
    by_cases hj : i = k
    · subst hj
      rw [ko 0 (by decide), ko 1 (by decide), ko 2 (by decide), ko 4 (by decide), ko 5 (by decide), k3]
      exact ⟨z0, z1, z2, z3, z4, z5, z6, z7, z8, z9, z10, z11, z12, by omega, hg⟩
    · rw [hc (100 + i) (by omega) (by omega) (by omega)]
      exact ⟨z0, z1, z2, z3, z4, z5, z6, z7, z8, z9, z10, z11, z12, z13, z14⟩
  · have hw := w1 i j q q2
    by_cases hj : j = g
    · subst hj
      rw [v1]
      by_cases hi : i = k
      · subst hi
        rw [k3]
        omega
      · rw [hc (100 + i) (by omega) (by omega) (by omega)]
        omega
    · rw [h2 j hj]
      by_cases hi : i = k
      · subst hi
        rw [k3]
        omega
      · rw [hc (100 + i) (by omega) (by omega) (by omega)]
        exact hw
  · by_cases hj : j = g
    · subst hj
      rw [v1] at he
      have : i = k := by omega
      rw [this]; exact hst
    · rw [h2 j hj] at he
      exact w2 j q i q2 he
  · by_cases hj : j = g
    · subst hj
      rw [v1] at he2; omega
    · by_cases hi : i = g
      · subst hi
        rw [v1] at he; omega
      · rw [h2 j hj] at he2
        rw [h2 i hi] at he
        exact w3 i j q q2 he he2
  · by_cases hj : j = g
    · subst hj
      rw [v1] at he; omega
    · rw [h2 j hj] at he
      exact w4 j q he
/-- a gang leaves a stone, which is then so and so -/
theorem Isite2_leave {μ ν μ' ν' : Mem} (h : Isite2 μ ν) (g : Nat) (hg : (g : Int) < μ 6 5) (k : Nat) (hk : (k : Int) < μ 6 6) (at_ : ν 302 g = (k : Int)) (hc : ∀ a, sC a → a ≠ 200 + g → a ≠ 100 + k → μ' a = μ a) (hr : ∀ a, sR a → a ≠ 302 → a ≠ 303 → a ≠ 304 → a ≠ 317 → a ≠ 318 → a ≠ 319 → ν' a = ν a) (h2 : ∀ j, j ≠ g → ν' 302 j = ν 302 j) (h3 : ∀ j, j ≠ g → ν' 303 j = ν 303 j) (h4 : ∀ j, j ≠ g → ν' 304 j = ν 304 j) (t7 : ∀ j, j ≠ k → ν' 317 j = ν 317 j) (t8 : ∀ j, j ≠ k → ν' 318 j = ν 318 j) (t9 : ∀ j, j ≠ k → ν' 319 j = ν 319 j) (h300 : ν' 300 = ν 300)
    (m0 : μ' (200 + g) 0 = μ (200 + g) 0) (m1 : μ' (200 + g) 1 = -1) (v1 : ν' 302 g = -1) (m2 : μ' (200 + g) 2 = 0) (v2 : ν' 303 g = 0) (m3 : μ' (200 + g) 3 = ν' 304 g) (m4 : μ' (200 + g) 4 = μ (200 + g) 4) (l0 : 0 ≤ ν' 304 g) (l1 : ν' 304 g ≤ μ 6 9)
    (k3 : μ' (100 + k) 3 = -1) (k0 : μ' (100 + k) 0 = μ (100 + k) 0) (k1 : μ' (100 + k) 1 = μ (100 + k) 1) (k2 : μ' (100 + k) 2 = ν' 317 k) (k4 : μ' (100 + k) 4 = ν' 318 k) (k5 : μ' (100 + k) 5 = ν' 319 k) (b0 : 0 ≤ ν' 317 k) (b1 : ν' 317 k ≤ 6) (b2 : ν' 317 k ≠ 5 → ν' 318 k = -1) : Isite2 μ' ν' := by
  unfold sC at hc
  unfold sR at hr
  obtain ⟨n0, hm, ⟨g1, g2⟩, ⟨q1, q2⟩, w1, w2, w3, w4⟩ := h
  have n1 := n0
  unfold Inum2 at n1
  have e6 := hc 6 (by omega) (by omega) (by omega)
  have e19 := hc 19 (by omega) (by omega) (by omega)
  have e20 := hc 20 (by omega) (by omega) (by omega)
  have e90 := hc 90 (by omega) (by omega) (by omega)
  have e1 := hr 301 (by omega) (by omega) (by omega) (by omega) (by omega) (by omega) (by omega)
  have e5 := hr 305 (by omega) (by omega) (by omega) (by omega) (by omega) (by omega) (by omega)
  have s1 := hr 315 (by omega) (by omega) (by omega) (by omega) (by omega) (by omega) (by omega)
  have s2 := hr 316 (by omega) (by omega) (by omega) (by omega) (by omega) (by omega) (by omega)
  unfold Isite2 Inum2 Igang2 Istone2 Iwork2
  rw [h300, e6, e90, e1, e5, s1, s2, e19, e20]
  refine ⟨n0, hm, ⟨fun j q => ?_, fun j q q6 => ?_⟩, ⟨fun i q => ?_, fun i q q30 => ?_⟩, fun i j q q2 => ?_, fun j q i q2 he => ?_, fun i j q q2 he he2 => ?_, fun j q he => ?_⟩
  · obtain ⟨z0, z1, z2, z3, z4, z5, z6, z7, z8, z9, z10, z11, z12, z13, z14, z15⟩ := g1 j q
    by_cases hj : j = g
    · subst hj
      rw [m0, m1, m2, m3, m4, v1, v2]
      exact ⟨z0, z1, rfl, rfl, rfl, z5, z6, z7, by omega, by omega, by omega, by omega, l0, l1, z14, z15⟩
    · rw [hc (200 + j) (by omega) (by omega) (by omega), h3 j hj, h2 j hj, h4 j hj]
      exact ⟨z0, z1, z2, z3, z4, z5, z6, z7, z8, z9, z10, z11, z12, z13, z14, z15⟩
  · rw [h2 j (by omega), h3 j (by omega), h4 j (by omega)]
    exact g2 j q q6
  · obtain ⟨z0, z1, z2, z3, z4, z5, z6, z7, z8, z9, z10, z11, z12, z13, z14⟩ := q1 i q
    by_cases hj : i = k
    · subst hj
      rw [k0, k1, k2, k4, k5, k3]
      exact ⟨z0, z1, z2, rfl, rfl, rfl, z6, z7, z8, z9, b0, b1, b2, by omega, by omega⟩
    · rw [hc (100 + i) (by omega) (by omega) (by omega), t7 i hj, t8 i hj, t9 i hj]
      exact ⟨z0, z1, z2, z3, z4, z5, z6, z7, z8, z9, z10, z11, z12, z13, z14⟩
  · rw [t7 i (by omega)]
    exact q2 i q q30
  · have hw := w1 i j q q2
    by_cases hj : j = g
    · subst hj
      rw [v1]
      by_cases hi : i = k
      · subst hi
        rw [k3]
        omega
      · rw [hc (100 + i) (by omega) (by omega) (by omega)]
        omega
    · rw [h2 j hj]
      by_cases hi : i = k
      · subst hi
        rw [k3]
        have hw2 := w1 i g hk hg
        omega
      · rw [hc (100 + i) (by omega) (by omega) (by omega)]
        exact hw
  · by_cases hj : j = g
    · subst hj
      rw [v1] at he
      omega
    · rw [h2 j hj] at he
      have hik : i ≠ k := by
        intro hik
        subst hik
        have x1 := w1 i g hk hg
        have x2 := w1 i j q2 q
        omega
      rw [t7 i hik]
      exact w2 j q i q2 he
  · by_cases hj : j = g
    · subst hj
      rw [v1] at he2; omega
    · by_cases hi : i = g
      · subst hi
        rw [v1] at he; omega
      · rw [h2 j hj] at he2
        rw [h2 i hi] at he
        exact w3 i j q q2 he he2
  · by_cases hj : j = g
    · subst hj
      rw [v1] at he; omega
    · rw [h2 j hj] at he
      exact w4 j q he
/-- a gang takes the ramp (w 30), or leaves it (w -1) with the ramp then so high -/
theorem Isite2_ramp {μ ν μ' ν' : Mem} (h : Isite2 μ ν) (g : Nat) (hg : (g : Int) < μ 6 5) (w hi : Int) (hw : (w = 30 ∧ ν 302 g = -1 ∧ (∀ j : Nat, (j : Int) < μ 6 5 → ν 302 j ≠ 30) ∧ hi ≤ 9 ∧ hi = μ 6 8) ∨ (w = -1 ∧ ν 302 g = 30 ∧ μ 6 8 ≤ hi ∧ hi ≤ 10)) (hc : ∀ a, sC a → a ≠ 200 + g → a ≠ 6 → μ' a = μ a) (hr : ∀ a, sR a → a ≠ 302 → a ≠ 303 → ν' a = ν a) (h2 : ∀ j, j ≠ g → ν' 302 j = ν 302 j) (h3 : ∀ j, j ≠ g → ν' 303 j = ν 303 j) (h6 : ∀ j, j ≠ 8 → μ' 6 j = μ 6 j) (h68 : μ' 6 8 = hi) (h300 : ∀ j, j ≠ 17 → ν' 300 j = ν 300 j) (h317 : ν' 300 17 = hi)
    (m1 : μ' (200 + g) 1 = w) (v1 : ν' 302 g = w) (m2 : μ' (200 + g) 2 = ν' 303 g) (mo : ∀ j, j ≠ 1 → j ≠ 2 → μ' (200 + g) j = μ (200 + g) j) (l0 : 0 ≤ ν' 303 g) (l1 : ν' 303 g ≤ 10000) : Isite2 μ' ν' := by
  unfold sC at hc
  unfold sR at hr
  obtain ⟨n0, hm, ⟨g1, g2⟩, ⟨q1, q2⟩, w1, w2, w3, w4⟩ := h
  have n1 := n0
  unfold Inum2 at n1
  have e19 := hc 19 (by omega) (by omega) (by omega)
  have e20 := hc 20 (by omega) (by omega) (by omega)
  have e90 := hc 90 (by omega) (by omega) (by omega)
  have e1 := hr 301 (by omega) (by omega) (by omega)
  have e4 := hr 304 (by omega) (by omega) (by omega)
  have e5 := hr 305 (by omega) (by omega) (by omega)
  have s1 := hr 315 (by omega) (by omega) (by omega)
  have s2 := hr 316 (by omega) (by omega) (by omega)
  have s3 := hr 317 (by omega) (by omega) (by omega)
  have s4 := hr 318 (by omega) (by omega) (by omega)
  have s5 := hr 319 (by omega) (by omega) (by omega)
  have hk : ∀ k : Nat, (k : Int) < μ 6 6 → μ' (100 + k) = μ (100 + k) := fun k hk => hc _ (by omega) (by omega) (by omega)
  unfold Isite2 Inum2 Igang2 Istone2 Iwork2
  rw [h300 1 (by decide), h300 2 (by decide), h300 26 (by decide), h317, h300 16 (by decide), h6 9 (by decide), h6 5 (by decide), h6 6 (by decide), h68, h6 10 (by decide), h6 7 (by decide), e90, e1, e4, e5, s1, s2, s3, s4, s5, e19, e20]
  refine ⟨⟨n1.1, by omega, by omega, n1.2.2.2.1, by omega, by omega, by omega, n1.2.2.2.2.2.2.2.1, by omega, by omega, by omega, rfl, by omega, by omega, by omega, by omega, by omega⟩, hm, ⟨fun j q => ?_, fun j q q6 => ?_⟩, ⟨fun i q => ?_, q2⟩, fun i j q q2 => ?_, fun j q i q2 he => ?_, fun i j q q2 he he2 => ?_, fun j q he => ?_⟩
  · obtain ⟨z0, z1, z2, z3, z4, z5, z6, z7, z8, z9, z10, z11, z12, z13, z14, z15⟩ := g1 j q
    by_cases hj : j = g
    · subst hj
      rw [mo 0 (by decide) (by decide), m1, m2, mo 3 (by decide) (by decide), mo 4 (by decide) (by decide), v1]
      exact ⟨z0, z1, rfl, rfl, z4, z5, z6, z7, by omega, by omega, l0, l1, z12, z13, z14, z15⟩
    · rw [hc (200 + j) (by omega) (by omega) (by omega), h3 j hj, h2 j hj]
      exact ⟨z0, z1, z2, z3, z4, z5, z6, z7, z8, z9, z10, z11, z12, z13, z14, z15⟩
  · rw [h2 j (by omega), h3 j (by omega)]
    exact g2 j q q6
  · rw [hk i q]; exact q1 i q
  · have hw := w1 i j q q2
    rw [hk i q]
    by_cases hj : j = g
    · subst hj
      rw [v1]
      omega
    · rw [h2 j hj]
      exact hw
  · by_cases hj : j = g
    · subst hj
      rw [v1] at he
      omega
    · rw [h2 j hj] at he
      exact w2 j q i q2 he
  · by_cases hj : j = g
    · by_cases hi2 : i = g
      · omega
      · subst hj
        rw [v1] at he2
        rw [h2 i hi2] at he
        rcases hw with ⟨-, -, hw, -⟩ | ⟨hw, -⟩
        · exact absurd he (hw i q)
        · omega
    · by_cases hi2 : i = g
      · subst hi2
        rw [v1] at he
        rw [h2 j hj] at he2
        rcases hw with ⟨-, -, hw, -⟩ | ⟨hw, -⟩
        · exact absurd he2 (hw j q2)
        · omega
      · rw [h2 j hj] at he2
        rw [h2 i hi2] at he
        exact w3 i j q q2 he he2
  · rcases hw with ⟨-, -, hw, hh, -⟩ | ⟨hw, hw2, hh⟩
    · exact hh
    · by_cases hj : j = g
      · subst hj
        rw [v1] at he; omega
      · rw [h2 j hj] at he
        exact absurd (w3 j g q hg he hw2) hj
