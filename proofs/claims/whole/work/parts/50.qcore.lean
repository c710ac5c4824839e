/-! QUARRELS, the numbers alone: a system of differences, by raising and by shortest ways -/
theorem countTo_le {p q : Nat → Prop} : ∀ n : Nat, (∀ k, k < n → p k → q k) → countTo p n ≤ countTo q n
  | 0, _ => Int.le_refl 0
  | n + 1, h => by
    have ih := countTo_le n (fun k hk => h k (by omega))
    show countTo p n + b2i (p n) ≤ countTo q n + b2i (q n)
    by_cases hp : p n
    · rw [b2i_t hp, b2i_t (h n (by omega) hp)]; omega
    · rw [b2i_f hp]
      have := b2i_01 (q n)
      omega
theorem countTo_lt {p q : Nat → Prop} : ∀ n : Nat, (∀ k, k < n → p k → q k) → (∃ k, k < n ∧ ¬ p k ∧ q k) → countTo p n + 1 ≤ countTo q n
  | 0, _, h2 => by obtain ⟨k, h, -⟩ := h2; omega
  | n + 1, h, h2 => by
    show countTo p n + b2i (p n) + 1 ≤ countTo q n + b2i (q n)
    obtain ⟨k, k1, k2, k3⟩ := h2
    by_cases hk : k = n
    · subst hk
      have ih := countTo_le k (fun j hj => h j (by omega))
      rw [b2i_f k2, b2i_t k3]; omega
    · have ih := countTo_lt n (fun j hj => h j (by omega)) ⟨k, by omega, k2, k3⟩
      by_cases hp : p n
      · rw [b2i_t hp, b2i_t (h n (by omega) hp)]; omega
      · rw [b2i_f hp]
        have := b2i_01 (q n)
        omega
theorem countTo_all {p : Nat → Prop} : ∀ n : Nat, (n : Int) ≤ countTo p n → ∀ k, k < n → p k
  | 0, _, k, hk => by omega
  | n + 1, h, k, hk => by
    have h' : ((n + 1 : Nat) : Int) ≤ countTo p n + b2i (p n) := h
    have h1 := countTo_b p n
    have h2 := b2i_01 (p n)
    by_cases e : k = n
    · subst e
      exact b2i_1.mp (by omega)
    · exact countTo_all n (by omega) k (by omega)
theorem countTo_dis {p q : Nat → Prop} : ∀ n : Nat, (∀ k, k < n → p k → ¬ q k) → countTo (fun k => p k ∨ q k) n = countTo p n + countTo q n
  | 0, _ => by show (0 : Int) = 0 + 0; omega
  | n + 1, h => by
    have ih := countTo_dis n (fun k hk => h k (by omega))
    show countTo (fun k => p k ∨ q k) n + b2i (p n ∨ q n) = countTo p n + b2i (p n) + (countTo q n + b2i (q n))
    by_cases hp : p n
    · rw [b2i_t hp, b2i_t (Or.inl hp), b2i_f (h n (by omega) hp)]; omega
    · by_cases hq : q n
      · rw [b2i_f hp, b2i_t (Or.inr hq), b2i_t hq]; omega
      · rw [b2i_f hp, b2i_f (fun e => e.elim hp hq), b2i_f hq]; omega
theorem least_ex (P : Nat → Prop) (h : ∃ n, P n) : ∃ n, P n ∧ ∀ m, m < n → ¬ P m := by
  obtain ⟨n, hn⟩ := h
  induction n using Nat.strongRecOn with
  | ind n ih =>
    by_cases hm : ∃ m, m < n ∧ P m
    · obtain ⟨m, h1, h2⟩ := hm
      exact ih m h1 h2
    · exact ⟨n, hn, fun m h1 h2 => hm ⟨m, h1, h2⟩⟩
theorem sumTo_le {f g : Nat → Int} : ∀ n : Nat, (∀ k, k < n → f k ≤ g k) → sumTo f n ≤ sumTo g n
  | 0, _ => Int.le_refl 0
  | n + 1, h => by
    have ih := sumTo_le n (fun k hk => h k (by omega))
    have := h n (by omega)
    show sumTo f n + f n ≤ sumTo g n + g n
    omega
theorem sumTo_lt {f g : Nat → Int} : ∀ n : Nat, (∀ k, k < n → f k ≤ g k) → (∃ k, k < n ∧ f k < g k) → sumTo f n < sumTo g n
  | 0, _, h2 => by obtain ⟨k, h, -⟩ := h2; omega
  | n + 1, h, h2 => by
    obtain ⟨k, k1, k2⟩ := h2
    show sumTo f n + f n < sumTo g n + g n
    by_cases hk : k = n
    · subst hk
      have ih := sumTo_le k (fun j hj => h j (by omega))
      omega
    · have ih := sumTo_lt n (fun j hj => h j (by omega)) ⟨k, by omega, k2⟩
      have := h n (by omega)
      omega
theorem sumTo_0 {f : Nat → Int} : ∀ n : Nat, (∀ k, k < n → 0 ≤ f k) → 0 ≤ sumTo f n
  | 0, _ => Int.le_refl 0
  | n + 1, h => by
    have ih := sumTo_0 n (fun k hk => h k (by omega))
    have := h n (by omega)
    show 0 ≤ sumTo f n + f n
    omega
/-! RAISING: edges E u v w ask for y v ≥ y u + w -/
def solE (B : Nat) (E : Nat → Nat → Int → Prop) (y : Nat → Int) : Prop := ∀ u v w, E u v w → y u + w ≤ y v
def leastS (B : Nat) (E : Nat → Nat → Int → Prop) (m : Nat → Int) : Prop := solE B E m ∧ (∀ i, i < B → 0 ≤ m i) ∧ ∀ x, solE B E x → (∀ i, i < B → 0 ≤ x i) → sumTo m B ≤ sumTo x B
theorem leastS_ex {B : Nat} {E : Nat → Nat → Int → Prop} (h : ∃ x, solE B E x ∧ ∀ i, i < B → 0 ≤ x i) : ∃ m, leastS B E m := by
  obtain ⟨n, ⟨m, h1, h2, h3⟩, h4⟩ := least_ex (fun n => ∃ x, solE B E x ∧ (∀ i, i < B → 0 ≤ x i) ∧ sumTo x B = (n : Int)) (by
    obtain ⟨x, h1, h2⟩ := h
    have := sumTo_0 B h2
    exact ⟨(sumTo x B).toNat, x, h1, h2, by omega⟩)
  refine ⟨m, h1, h2, fun x k1 k2 => ?_⟩
  have h0 := sumTo_0 B k2
  by_cases hc : sumTo m B ≤ sumTo x B
  · exact hc
  · exact absurd ⟨x, k1, k2, by omega⟩ (h4 (sumTo x B).toNat (by omega))
/-- a round of raising settles one place more -/
theorem round_settles {B : Nat} {E : Nat → Nat → Int → Prop} {m y y' : Nat → Int} (hE : ∀ u v w, E u v w → u < B ∧ v < B) (hm : leastS B E m) (h0 : ∀ i, i < B → 0 ≤ y i) (hle : ∀ i, i < B → y i ≤ y' i) (hup : ∀ i, i < B → y' i ≤ m i) (hr : ∀ u v w, E u v w → y u + w ≤ y' v) (hn : ¬ ∀ i, i < B → y i = m i) : countTo (fun i => y i = m i) B + 1 ≤ countTo (fun i => y' i = m i) B := by
  refine countTo_lt B (fun k hk h => by have := hle k hk; have := hup k hk; omega) ?_
  by_cases hx : ∃ k, k < B ∧ ¬ y k = m k ∧ y' k = m k
  · exact hx
  exfalso
  obtain ⟨hs, hp, hl⟩ := hm
  have hno : ∀ k, k < B → ¬ y k = m k → y' k < m k := fun k hk h => by
    have := hup k hk
    by_cases e : y' k = m k
    · exact absurd ⟨k, hk, h, e⟩ hx
    · omega
  let x : Nat → Int := fun i => m i - b2i (¬ y i = m i)
  have hxs : ∀ i, x i = m i - b2i (¬ y i = m i) := fun _ => rfl
  have h1 : solE B E x := by
    intro u v w he
    rw [hxs, hxs]
    have := hs u v w he
    obtain ⟨hu, hv⟩ := hE u v w he
    by_cases cu : y u = m u
    · rw [b2i_f (fun e => e cu)]
      by_cases cv : y v = m v
      · rw [b2i_f (fun e => e cv)]; omega
      · rw [b2i_t cv]
        have := hno v hv cv
        have := hr u v w he
        omega
    · rw [b2i_t cu]
      have := b2i_01 (¬ y v = m v)
      omega
  have h2 : ∀ i, i < B → 0 ≤ x i := by
    intro i hi
    rw [hxs]
    by_cases c : y i = m i
    · rw [b2i_f (fun e => e c)]
      have := hp i hi; omega
    · rw [b2i_t c]
      have := hno i hi c
      have := h0 i hi
      have := hle i hi
      omega
  have h3 := hl x h1 h2
  have h4 : sumTo x B < sumTo m B := by
    refine sumTo_lt B (fun k _ => ?_) ?_
    · rw [hxs]
      have := b2i_01 (¬ y k = m k)
      omega
    · by_cases hq : ∃ k, k < B ∧ ¬ y k = m k
      · obtain ⟨k, k1, k2⟩ := hq
        refine ⟨k, k1, ?_⟩
        rw [hxs, b2i_t k2]; omega
      · exact absurd (fun i hi => by
          by_cases c : y i = m i
          · exact c
          · exact absurd ⟨i, hi, c⟩ hq) hn
  omega
/-! SHORTEST WAYS -/
def FARz : Int := 268435456
def addF (u v : Int) : Int := if u = 268435456 ∨ v = 268435456 then 268435456 else u + v
def stepF (D : Nat → Nat → Int) (m a b : Nat) : Int := if D a b < addF (D a m) (D m b) then D a b else addF (D a m) (D m b)
def FWs (B : Nat) (D : Nat → Nat → Int) (y : Nat → Int) : Prop := ∀ a b, a < B → b < B → D a b ≠ 268435456 → y b - y a ≤ D a b
def FWi (B m : Nat) (D : Nat → Nat → Int) : Prop :=
  (∀ a, a < B → D a a = 0) ∧
  (∀ k a b, k < m → a < B → b < B → D a k ≠ 268435456 → D k b ≠ 268435456 → D a b ≤ D a k + D k b) ∧
  (∀ a b, a < B → b < B → D a b = 268435456 ∨ ∃ A : Nat → Prop, (∀ k, A k → k < m ∧ D a k ≠ 268435456 ∧ D k b ≠ 268435456 ∧ D a b = D a k + D k b) ∧ -(30 * (countTo A m + 1)) ≤ D a b ∧ D a b ≤ 30 * (countTo A m + 1))
theorem FWi_b {B m : Nat} {D : Nat → Nat → Int} (h : FWi B m D) (hm : m ≤ 40) {a b : Nat} (ha : a < B) (hb : b < B) (hf : D a b ≠ 268435456) : -1230 ≤ D a b ∧ D a b ≤ 1230 := by
  rcases h.2.2 a b ha hb with h1 | ⟨A, -, h2, h3⟩
  · exact absurd h1 hf
  · have := countTo_b A m
    omega
theorem stepF_0 {B m : Nat} {D : Nat → Nat → Int} (h : FWi B m D) (hm : m < B) {a : Nat} (ha : a < B) : stepF D m a m = D a m ∧ stepF D m m a = D m a := by
  have hd := h.1 m hm
  unfold stepF addF
  rw [hd]
  constructor
  · by_cases c : D a m = 268435456
    · rw [c]; simp
    · rw [if_neg (by omega)]; split <;> omega
  · by_cases c : D m a = 268435456
    · rw [c]; simp
    · rw [if_neg (by omega)]; split <;> omega
theorem stepF_le {D : Nat → Nat → Int} {m a b : Nat} : stepF D m a b ≤ D a b := by
  unfold stepF
  split <;> omega
theorem stepF_le2 {D : Nat → Nat → Int} {m a b : Nat} (h1 : D a m ≠ 268435456) (h2 : D m b ≠ 268435456) : stepF D m a b ≤ D a m + D m b := by
  unfold stepF addF
  rw [if_neg (show ¬ (D a m = 268435456 ∨ D m b = 268435456) by omega)]
  split <;> omega
theorem stepF_c {D : Nat → Nat → Int} {m a b : Nat} (h : stepF D m a b ≠ 268435456) (hb : D a b ≤ 268435456) : (D a b ≠ 268435456 ∧ stepF D m a b = D a b) ∨ (D a m ≠ 268435456 ∧ D m b ≠ 268435456 ∧ stepF D m a b = D a m + D m b ∧ D a m + D m b < D a b) := by
  unfold stepF addF at h ⊢
  by_cases c : D a m = 268435456 ∨ D m b = 268435456
  · rw [if_pos c] at h ⊢
    left
    split at h
    · next q => rw [if_pos q]; exact ⟨by omega, rfl⟩
    · omega
  · rw [if_neg c] at h ⊢
    split at h
    · next q => left; rw [if_pos q]; exact ⟨by omega, rfl⟩
    · next q =>
      by_cases e : D a b = D a m + D m b
      · left; rw [if_neg q, ← e]; exact ⟨by omega, rfl⟩
      · right; rw [if_neg q]; exact ⟨by omega, by omega, rfl, by omega⟩
theorem FWi_t {B m : Nat} {D : Nat → Nat → Int} (h : FWi B m D) (hB : B ≤ 40) (hm : m < B) : ∀ k a b, k < m + 1 → a < B → b < B → stepF D m a k ≠ 268435456 → stepF D m k b ≠ 268435456 → stepF D m a b ≤ stepF D m a k + stepF D m k b := by
  have hb : ∀ a b, a < B → b < B → D a b ≤ 268435456 := fun a b ha hb => by
    by_cases c : D a b = 268435456
    · omega
    · have := FWi_b h (by omega) ha hb c; omega
  intro k a b hk ha hbb h1 h2
  by_cases hkm : k = m
  · subst hkm
    rw [(stepF_0 h hm ha).1] at h1 ⊢
    rw [(stepF_0 h hm hbb).2] at h2 ⊢
    exact stepF_le2 h1 h2
  have hkm' : k < m := by omega
  have hkB : k < B := by omega
  have T := h.2.1
  have tm := T k m m hkm' hm hm
  have d0 := h.1 m hm
  rcases stepF_c h1 (hb _ _ ha hkB) with ⟨f1, e1⟩ | ⟨f1, f1', e1, -⟩
  · rcases stepF_c h2 (hb _ _ hkB hbb) with ⟨f2, e2⟩ | ⟨f2, f2', e2, -⟩
    · have := T k a b hkm' ha hbb f1 f2
      have := stepF_le (D := D) (m := m) (a := a) (b := b)
      omega
    · have t1 := T k a m hkm' ha hm f1 f2
      have b1 := FWi_b h (by omega) ha hkB f1
      have b2 := FWi_b h (by omega) hkB hm f2
      have := stepF_le2 (D := D) (a := a) (b := b) (m := m) (by omega) f2'
      omega
  · rcases stepF_c h2 (hb _ _ hkB hbb) with ⟨f2, e2⟩ | ⟨f2, f2', e2, -⟩
    · have t1 := T k m b hkm' hm hbb f1' f2
      have b1 := FWi_b h (by omega) hm hkB f1'
      have b2 := FWi_b h (by omega) hkB hbb f2
      have := stepF_le2 (D := D) (a := a) (b := b) (m := m) f1 (by omega)
      omega
    · have t1 := tm f1' f2
      have := stepF_le2 (D := D) (a := a) (b := b) (m := m) f1 f2'
      omega
theorem FWi_step {B m : Nat} {D : Nat → Nat → Int} (h : FWi B m D) (hB : B ≤ 40) (hm : m < B) (hd : ∀ a, a < B → 0 ≤ stepF D m a a) : FWi B (m + 1) (stepF D m) := by
  have hb : ∀ a b, a < B → b < B → D a b ≤ 268435456 := fun a b ha hb => by
    by_cases c : D a b = 268435456
    · omega
    · have := FWi_b h (by omega) ha hb c; omega
  have hT := FWi_t h hB hm
  refine ⟨fun a ha => ?_, hT, fun a b ha hbb => ?_⟩
  · have := hd a ha
    have := stepF_le (D := D) (m := m) (a := a) (b := a)
    have := h.1 a ha
    omega
  by_cases hf : stepF D m a b = 268435456
  · exact Or.inl hf
  right
  rcases stepF_c hf (hb a b ha hbb) with ⟨f1, e1⟩ | ⟨f1, f2, e1, lt⟩
  · rcases h.2.2 a b ha hbb with q | ⟨A, q1, q2, q3⟩
    · exact absurd q f1
    refine ⟨A, fun k hk => ?_, ?_⟩
    · obtain ⟨k1, k2, k3, k4⟩ := q1 k hk
      have l1 := stepF_le (D := D) (m := m) (a := a) (b := k)
      have l2 := stepF_le (D := D) (m := m) (a := k) (b := b)
      have c1 := FWi_b h (by omega) ha (show k < B by omega) k2
      have c2 := FWi_b h (by omega) (show k < B by omega) hbb k3
      have := hT k a b (by omega) ha hbb (by omega) (by omega)
      exact ⟨by omega, by omega, by omega, by omega⟩
    · have hc : countTo A (m + 1) = countTo A m + b2i (A m) := rfl
      rw [b2i_f (fun e => by have := (q1 m e).1; omega)] at hc
      rw [hc, e1]
      omega
  · rcases h.2.2 a m ha hm with q | ⟨A1, q1, q2, q3⟩
    · exact absurd q f1
    rcases h.2.2 m b hm hbb with q | ⟨A2, r1, r2, r3⟩
    · exact absurd q f2
    have dis : ∀ k, k < m → A1 k → ¬ A2 k := by
      intro k hk hA1 hA2
      obtain ⟨-, k2, k3, k4⟩ := q1 k hA1
      obtain ⟨-, l2, l3, l4⟩ := r1 k hA2
      have t := h.2.1 k a b hk ha hbb k2 l3
      have p := hd k (by omega)
      have := stepF_le2 (D := D) (a := k) (b := k) (m := m) k3 l2
      omega
    have hc := countTo_dis m dis
    have hc2 : countTo (fun k => (A1 k ∨ A2 k) ∨ k = m) (m + 1) = countTo (fun k => A1 k ∨ A2 k) m + 1 := by
      show countTo (fun k => (A1 k ∨ A2 k) ∨ k = m) m + b2i ((A1 m ∨ A2 m) ∨ m = m) = _
      rw [b2i_t (Or.inr rfl)]
      congr 1
      exact countTo_cong m (fun k hk => ⟨fun e => e.elim id (fun e => by omega), Or.inl⟩)
    refine ⟨fun k => (A1 k ∨ A2 k) ∨ k = m, fun k hk => ?_, ?_⟩
    · rcases hk with (hk | hk) | hk
      · obtain ⟨k1, k2, k3, k4⟩ := q1 k hk
        have l1 := stepF_le (D := D) (m := m) (a := a) (b := k)
        have l2 := stepF_le2 (D := D) (m := m) (a := k) (b := b) k3 f2
        have c1 := FWi_b h (by omega) ha (show k < B by omega) k2
        have c2 := FWi_b h (by omega) (show k < B by omega) hm k3
        have c3 := FWi_b h (by omega) hm hbb f2
        have := hT k a b (by omega) ha hbb (by omega) (by omega)
        exact ⟨by omega, by omega, by omega, by omega⟩
      · obtain ⟨k1, k2, k3, k4⟩ := r1 k hk
        have l1 := stepF_le2 (D := D) (m := m) (a := a) (b := k) f1 k2
        have l2 := stepF_le (D := D) (m := m) (a := k) (b := b)
        have c1 := FWi_b h (by omega) ha hm f1
        have c2 := FWi_b h (by omega) hm (show k < B by omega) k2
        have c3 := FWi_b h (by omega) (show k < B by omega) hbb k3
        have := hT k a b (by omega) ha hbb (by omega) (by omega)
        exact ⟨by omega, by omega, by omega, by omega⟩
      · subst hk
        rw [(stepF_0 h hm ha).1, (stepF_0 h hm hbb).2]
        exact ⟨by omega, f1, f2, e1⟩
    · rw [hc2, hc, e1]
      omega
theorem FWs_step {B m : Nat} {D : Nat → Nat → Int} {y : Nat → Int} (hb : ∀ a b, a < B → b < B → D a b ≤ 268435456) (hm : m < B) (h : FWs B D y) : FWs B (stepF D m) y := by
  intro a b ha hbb hf
  rcases stepF_c hf (hb a b ha hbb) with ⟨f1, e1⟩ | ⟨f1, f2, e1, -⟩
  · rw [e1]; exact h a b ha hbb f1
  · have h1 := h a m ha hm f1
    have h2 := h m b hm hbb f2
    omega
theorem FWs_back {B m : Nat} {D : Nat → Nat → Int} {y : Nat → Int} (hb : ∀ a b, a < B → b < B → D a b ≤ 268435456) (h : FWs B (stepF D m) y) : FWs B D y := by
  intro a b ha hbb hf
  have h1 := stepF_le (D := D) (m := m) (a := a) (b := b)
  have h2 := hb a b ha hbb
  have := h a b ha hbb (by omega)
  omega
def minTo (f : Nat → Int) : Nat → Int
  | 0 => 0
  | n + 1 => if f n < minTo f n then f n else minTo f n
theorem minTo_s (f : Nat → Int) : ∀ n : Nat, (∀ i, i < n → minTo f n ≤ f i) ∧ minTo f n ≤ 0 ∧ (minTo f n = 0 ∨ ∃ i, i < n ∧ minTo f n = f i)
  | 0 => ⟨fun i hi => by omega, Int.le_refl 0, Or.inl rfl⟩
  | n + 1 => by
    obtain ⟨h1, h2, h3⟩ := minTo_s f n
    have e : minTo f (n + 1) = if f n < minTo f n then f n else minTo f n := rfl
    rw [e]
    by_cases c : f n < minTo f n
    · rw [if_pos c]
      refine ⟨fun i hi => ?_, by omega, Or.inr ⟨n, by omega, rfl⟩⟩
      by_cases q : i = n
      · subst q; omega
      · have := h1 i (by omega); omega
    · rw [if_neg c]
      refine ⟨fun i hi => ?_, h2, ?_⟩
      · by_cases q : i = n
        · subst q; omega
        · exact h1 i (by omega)
      · rcases h3 with h3 | ⟨i, h3, h4⟩
        · exact Or.inl h3
        · exact Or.inr ⟨i, by omega, h4⟩
theorem FWi_sol {B : Nat} {D : Nat → Nat → Int} (h : FWi B B D) (hB : B ≤ 40) : ∃ y, FWs B D y := by
  refine ⟨fun b => minTo (fun a => D a b) B, fun a b ha hb hf => ?_⟩
  obtain ⟨a1, a2, a3⟩ := minTo_s (fun s => D s a) B
  obtain ⟨b1, b2, -⟩ := minTo_s (fun s => D s b) B
  have key : ∃ s, s < B ∧ minTo (fun s => D s a) B = D s a ∧ D s a ≠ 268435456 := by
    rcases a3 with a3 | ⟨i, i1, i2⟩
    · refine ⟨a, ha, ?_, ?_⟩
      · rw [a3, h.1 a ha]
      · rw [h.1 a ha]; omega
    · exact ⟨i, i1, i2, by have : minTo (fun s => D s a) B = D i a := i2; omega⟩
  obtain ⟨s, s1, s2, s3⟩ := key
  have t := h.2.1 a s b ha s1 hb s3 hf
  have := b1 s s1
  show minTo (fun s => D s b) B - minTo (fun s => D s a) B ≤ D a b
  rw [s2]
  have e : (fun s => D s b) s = D s b := rfl
  omega
