/-! TABLE: two readers of one text -/
def tbC (T : Nat) (b : Nat → Int) (μ : Mem) : Prop := μ 3 1 = (T : Int) ∧ ∀ i, i < T → μ 16 i = b i
def tbR (T : Nat) (b : Nat → Int) (ν : Mem) : Prop := ν 300 19 = (T : Int) ∧ ∀ i, i < T → ν 311 i = b i
def runT (P : Int → Prop) (T : Nat) (b : Nat → Int) (p q : Nat) : Prop := p ≤ q ∧ q ≤ T ∧ (∀ j, p ≤ j → j < q → P (b j)) ∧ (q = T ∨ ¬ P (b q))
theorem runT_ex {P : Int → Prop} {T : Nat} {b : Nat → Int} : ∀ (d p : Nat), p + d = T → ∃ q, runT P T b p q
  | 0, p, h => ⟨p, Nat.le_refl p, by omega, fun j j1 j2 => by omega, Or.inl (by omega)⟩
  | d + 1, p, h => by
    by_cases c : P (b p)
    · obtain ⟨q, q1, q2, q3, q4⟩ := runT_ex (P := P) (T := T) (b := b) d (p + 1) (by omega)
      refine ⟨q, by omega, q2, fun j j1 j2 => ?_, q4⟩
      by_cases e : j = p
      · rw [e]; exact c
      · exact q3 j (by omega) j2
    · exact ⟨p, Nat.le_refl p, by omega, fun j j1 j2 => by omega, Or.inr c⟩
theorem runT_s {P : Int → Prop} {T : Nat} {b : Nat → Int} {p q : Nat} (h : runT P T b p q) (hp : p < q) : P (b p) ∧ runT P T b (p + 1) q := by
  obtain ⟨h1, h2, h3, h4⟩ := h
  exact ⟨h3 p (Nat.le_refl p) hp, by omega, h2, fun j j1 j2 => h3 j (by omega) j2, h4⟩
theorem c_byteAt {T : Nat} {b : Nat → Int} {μ : Mem} (h : tbC T b μ) (hT : T ≤ 200) (hb : ∀ i, i < T → -128 ≤ b i ∧ b i < 128) (p : Nat) (hp : p < T) : ∃ u, f_X9_byteAt μ (p : Int) = some (u, μ) ∧ ((b p < 0 ∧ u = b p + 256) ∨ (0 ≤ b p ∧ u = b p)) := by
  obtain ⟨h1, h2⟩ := h
  have hz := zbyte (hb p hp).1 (hb p hp).2
  refine ⟨zand (b p) 255, ?_, ?_⟩
  · unfold f_X9_byteAt
    rw [if_neg (by omega), if_pos (by omega), if_pos (by omega), Int.toNat_natCast, h2 p hp]
  · rw [hz]
    by_cases c : b p < 0
    · left; rw [if_pos c]; exact ⟨c, rfl⟩
    · right; rw [if_neg c]; exact ⟨by omega, rfl⟩
theorem tbC_up {T : Nat} {b : Nat → Int} {μ : Mem} (h : tbC T b μ) {o k : Nat} {v : Int} (h1 : o ≠ 3) (h2 : o ≠ 16) : tbC T b (up μ o k v) := by
  unfold tbC
  rw [up_ne (fun e => h1 e.symm), up_ne (fun e => h2 e.symm)]
  exact h
theorem tbR_up {T : Nat} {b : Nat → Int} {ν : Mem} (h : tbR T b ν) {o k : Nat} {v : Int} (h1 : o ≠ 300 ∨ k ≠ 19) (h2 : o ≠ 311) : tbR T b (up ν o k v) := by
  unfold tbR
  rw [up_ne (show 311 ≠ o from fun e => h2 e.symm)]
  refine ⟨?_, h.2⟩
  by_cases e : o = 300
  · subst e
    rw [up_at, upf_ne (show 19 ≠ k by omega)]
    exact h.1
  · rw [up_ne (show 300 ≠ o from fun x => e x.symm)]
    exact h.1
section TBL
variable {T : Nat} {b : Nat → Int}
/-- blanks -/
theorem c_skip (hT : T ≤ 200) (hb : ∀ i, i < T → -128 ≤ b i ∧ b i < 128) : ∀ (d n p : Nat) (μ : Mem), tbC T b μ → μ 5 4 = (p : Int) → runT (fun z => z = 32) T b p (p + d) → d < n → f_X7_skipBlanks_0 n μ = some (0, up μ 5 4 ((p + d : Nat) : Int))
  | 0, n + 1, p, μ, h, hp, hr, hn => by
    rw [f_X7_skipBlanks_0_e, Nat.add_zero, ← hp, up_id]
    by_cases c : p = T
    · rw [if_pos (by rw [h.1]; omega)]
    · have hpT : p < T := by have := hr.2.1; omega
      obtain ⟨u, u1, u2⟩ := c_byteAt h hT hb p hpT
      have h32 : ¬ b p = 32 := by
        rcases hr.2.2.2 with e | e
        · omega
        · exact e
      have hbp := hb p hpT
      rw [if_neg (by rw [h.1]; omega), hp, u1, bd_some, if_neg (by omega)]
  | d + 1, n + 1, p, μ, h, hp, hr, hn => by
    obtain ⟨h32, hr2⟩ := runT_s hr (by omega)
    have hpT : p < T := by have := hr.2.1; omega
    obtain ⟨u, u1, u2⟩ := c_byteAt h hT hb p hpT
    have ih := c_skip hT hb d n (p + 1) (up μ 5 4 ((p : Int) + 1)) (tbC_up h (by decide) (by decide)) (by rw [up_at, upf_same]; omega) (by rw [show p + 1 + d = p + (d + 1) by omega]; exact hr2) (by omega)
    rw [f_X7_skipBlanks_0_e, if_neg (by rw [h.1]; omega), hp, u1, bd_some, if_pos (by omega), if_pos (by omega), lm_e, hp, ih, up_up, show p + 1 + d = p + (d + 1) by omega]
theorem r_over_0 (hT : T ≤ 200) : ∀ (d n p : Nat) (ν : Mem), tbR T b ν → ν 300 20 = (p : Int) → runT (fun z => z = 32) T b p (p + d) → d < n → f_X11_isOver_0 n ν = f_X11_isOver_38 (up ν 300 20 ((p + d : Nat) : Int))
  | 0, n + 1, p, ν, h, hp, hr, hn => by
    rw [f_X11_isOver_0_e, Nat.add_zero, ← hp, up_id]
    by_cases c : p = T
    · rw [if_pos (by rw [h.1]; omega)]
    · have hpT : p < T := by have := hr.2.1; omega
      have h32 : ¬ b p = 32 := by
        rcases hr.2.2.2 with e | e
        · omega
        · exact e
      have hv := h.2 p hpT
      rw [if_neg (by rw [h.1]; omega), if_pos (by omega), hp, Int.toNat_natCast, if_neg (by omega)]
  | d + 1, n + 1, p, ν, h, hp, hr, hn => by
    obtain ⟨h32, hr2⟩ := runT_s hr (by omega)
    have hpT : p < T := by have := hr.2.1; omega
    have hv := h.2 p hpT
    have ih := r_over_0 hT d n (p + 1) (up ν 300 20 ((p : Int) + 1)) (tbR_up h (Or.inr (by decide)) (by decide)) (by rw [up_at, upf_same]; omega) (by rw [show p + 1 + d = p + (d + 1) by omega]; exact hr2) (by omega)
    rw [f_X11_isOver_0_e, if_neg (by rw [h.1]; omega), if_pos (by omega), hp, Int.toNat_natCast, if_pos (by omega), if_pos (by omega), lm_e, ih, up_up, show p + 1 + d = p + (d + 1) by omega]
theorem c_skipB (hT : T ≤ 200) (hb : ∀ i, i < T → -128 ≤ b i ∧ b i < 128) {p q : Nat} {μ : Mem} (h : tbC T b μ) (hp : μ 5 4 = (p : Int)) (hr : runT (fun z => z = 32) T b p q) : f_X7_skipBlanks μ = some (0, up μ 5 4 (q : Int)) := by
  have h1 := hr.1
  have h2 := hr.2.1
  have := c_skip hT hb (q - p) 256 p μ h hp (by rw [show p + (q - p) = q by omega]; exact hr) (by omega)
  rw [show p + (q - p) = q by omega] at this
  exact this
theorem r_over (hT : T ≤ 200) {p q : Nat} {ν : Mem} (h : tbR T b ν) (hp : ν 300 20 = (p : Int)) (hr : runT (fun z => z = 32) T b p q) : f_X11_isOver ν = some (b2i (q = T), up (up ν 300 20 (q : Int)) 300 21 (q : Int)) := by
  have h1 := hr.1
  have h2 := hr.2.1
  have := r_over_0 hT (q - p) 256 p ν h hp (by rw [show p + (q - p) = q by omega]; exact hr) (by omega)
  rw [show p + (q - p) = q by omega] at this
  unfold f_X11_isOver
  rw [this]
  unfold f_X11_isOver_38
  rw [lm_e]
  simp (disch := omega) only [bd_some, lm_e, if_pos, if_neg, up_ne, up_at, upf_same, upf_ne, reduceIte, or_true, true_or, Int.reduceToNat, Int.toNat_natCast, tn100, tn200]
  rw [h.1]
  by_cases c : q = T
  · rw [b2i_t c, if_pos (by omega)]
  · rw [b2i_f c, if_neg (by omega)]
/-- letters -/
def isLet (z : Int) : Prop := 97 ≤ z ∧ z ≤ 122
def isDig (z : Int) : Prop := 48 ≤ z ∧ z ≤ 57
theorem c_isLetter (hT : T ≤ 200) (hb : ∀ i, i < T → -128 ≤ b i ∧ b i < 128) {μ : Mem} (h : tbC T b μ) {p : Nat} (hp : p < T) : f_X9_isLetter μ (p : Int) = some (b2i (isLet (b p)), μ) := by
  obtain ⟨u, u1, u2⟩ := c_byteAt h hT hb p hp
  have hbp := hb p hp
  unfold f_X9_isLetter isLet
  rw [u1, bd_some]
  by_cases c1 : u < 97
  · rw [if_pos c1, b2i_f (by omega)]
  · rw [if_neg c1, u1, bd_some]
    by_cases c2 : 122 < u
    · rw [if_pos c2, b2i_f (by omega)]
    · rw [if_neg c2, b2i_t (by omega)]
theorem c_isDigit (hT : T ≤ 200) (hb : ∀ i, i < T → -128 ≤ b i ∧ b i < 128) {μ : Mem} (h : tbC T b μ) {p : Nat} (hp : p < T) : f_X9_isDigit μ (p : Int) = some (b2i (isDig (b p)), μ) := by
  obtain ⟨u, u1, u2⟩ := c_byteAt h hT hb p hp
  have hbp := hb p hp
  unfold f_X9_isDigit isDig
  rw [u1, bd_some]
  by_cases c1 : u < 48
  · rw [if_pos c1, b2i_f (by omega)]
  · rw [if_neg c1, u1, bd_some]
    by_cases c2 : 57 < u
    · rw [if_pos c2, b2i_f (by omega)]
    · rw [if_neg c2, b2i_t (by omega)]
theorem c_word (hT : T ≤ 200) (hb : ∀ i, i < T → -128 ≤ b i ∧ b i < 128) (s : Int) : ∀ (d n p : Nat) (μ : Mem), tbC T b μ → μ 5 4 = (p : Int) → runT isLet T b p (p + d) → d < n → f_X7_readWord_9 n s μ = f_X7_readWord_50 s (up μ 5 4 ((p + d : Nat) : Int))
  | 0, n + 1, p, μ, h, hp, hr, hn => by
    rw [f_X7_readWord_9_e, Nat.add_zero, ← hp, up_id]
    by_cases c : p = T
    · rw [if_pos (by rw [h.1]; omega)]
    · have hpT : p < T := by have := hr.2.1; omega
      have hl : ¬ isLet (b p) := by
        rcases hr.2.2.2 with e | e
        · omega
        · exact e
      rw [if_neg (by rw [h.1]; omega), hp, c_isLetter hT hb h hpT, bd_some, b2i_f hl, if_pos rfl]
  | d + 1, n + 1, p, μ, h, hp, hr, hn => by
    obtain ⟨hl, hr2⟩ := runT_s hr (by omega)
    have hpT : p < T := by have := hr.2.1; omega
    have ih := c_word hT hb s d n (p + 1) (up μ 5 4 ((p : Int) + 1)) (tbC_up h (by decide) (by decide)) (by rw [up_at, upf_same]; omega) (by rw [show p + 1 + d = p + (d + 1) by omega]; exact hr2) (by omega)
    rw [f_X7_readWord_9_e, if_neg (by rw [h.1]; omega), hp, c_isLetter hT hb h hpT, bd_some, b2i_t hl, if_neg (by decide), if_pos (by omega), lm_e, hp, ih, up_up, show p + 1 + d = p + (d + 1) by omega]
theorem r_word (hT : T ≤ 200) : ∀ (d n p : Nat) (ν : Mem), tbR T b ν → ν 300 20 = (p : Int) → runT isLet T b p (p + d) → d < n → f_X11_clause_5 n ν = f_X11_clause_59 256 0 (up ν 300 20 ((p + d : Nat) : Int))
  | 0, n + 1, p, ν, h, hp, hr, hn => by
    rw [f_X11_clause_5_e, Nat.add_zero, ← hp, up_id]
    by_cases c : p = T
    · rw [if_pos (by rw [h.1]; omega)]
    · have hpT : p < T := by have := hr.2.1; omega
      have hl : ¬ isLet (b p) := by
        rcases hr.2.2.2 with e | e
        · omega
        · exact e
      have hv := h.2 p hpT
      unfold isLet at hl
      rw [if_neg (by rw [h.1]; omega), if_pos (by omega), hp, Int.toNat_natCast]
      by_cases c1 : ν 311 p < 97
      · rw [if_pos c1]
      · rw [if_neg c1, if_pos (by omega)]
  | d + 1, n + 1, p, ν, h, hp, hr, hn => by
    obtain ⟨hl, hr2⟩ := runT_s hr (by omega)
    have hpT : p < T := by have := hr.2.1; omega
    have hv := h.2 p hpT
    unfold isLet at hl
    have ih := r_word hT d n (p + 1) (up ν 300 20 ((p : Int) + 1)) (tbR_up h (Or.inr (by decide)) (by decide)) (by rw [up_at, upf_same]; omega) (by rw [show p + 1 + d = p + (d + 1) by omega]; exact hr2) (by omega)
    rw [f_X11_clause_5_e, if_neg (by rw [h.1]; omega), if_pos (by omega), hp, Int.toNat_natCast, if_neg (by omega), if_neg (by omega), if_pos (by omega), lm_e, ih, up_up, show p + 1 + d = p + (d + 1) by omega]
/-- words -/
def wlen (c : Nat) : Nat := strLen.getD c 0
def wch (c k : Nat) : Int := zi2c (zand (schr (1000 + (c : Int) + 20) k) 255)
theorem wlen_e : ∀ c : Nat, c < 8 → zshr (slen (1000 + (c : Int) + 20)) 0 = (wlen c : Int) ∧ slen (1000 + (c : Int) + 20) = (wlen c : Int) ∧ wlen c ≤ 5 := by decide +kernel
theorem wch_b : ∀ c : Nat, c < 8 → ∀ k : Nat, k < 6 → 0 ≤ wch c k ∧ wch c k < 128 := by decide +kernel
theorem t_len {μ : Mem} {c : Nat} (hc : c < 8) : f_J0_length_8abf5 μ (1000 + (c : Int)) = some ((wlen c : Int), μ) := by
  unfold f_J0_length_8abf5 f_J0_coder_7d493
  rw [if_pos (by omega), if_pos (by omega), if_neg (by decide), if_pos (by omega), bd_some, (wlen_e c hc).1]
theorem t_chr {μ : Mem} {c k : Nat} (hc : c < 8) (hk : k < wlen c) : f_J0_charAt_5068e μ (1000 + (c : Int)) (k : Int) = some (wch c k, μ) := by
  obtain ⟨-, l1, l2⟩ := wlen_e c hc
  have hw := wch_b c hc k (by omega)
  have hw2 : wch c k = zi2c (zand (schr (1000 + (c : Int) + 20) k) 255) := rfl
  unfold f_J0_charAt_5068e f_J0_isLatin1_aae02 f_J1_charAt_3b067 f_J0_checkIndex_df160 f_J3_checkIndex_8e157
  rw [if_pos (by omega), if_neg (by decide), if_pos (by omega), if_pos rfl, bd_some, if_neg (by decide), if_pos (by omega), if_neg (by omega), if_pos (by omega), bd_some, bd_some, if_pos (by omega), Int.toNat_natCast, ← hw2, if_pos (by omega), bd_some, if_pos (by omega)]
def wordP (b : Nat → Int) (p c k : Nat) : Prop := ∀ j, k ≤ j → j < wlen c → b (p + j) = wch c j
theorem wordP_s {p c k : Nat} (h : b (p + k) = wch c k) : wordP b p c k ↔ wordP b p c (k + 1) := by
  constructor
  · intro q j j1 j2
    exact q j (by omega) j2
  · intro q j j1 j2
    by_cases e : j = k
    · rw [e]; exact h
    · exact q j (by omega) j2
theorem wordP_e {p c k : Nat} (h : wlen c ≤ k) : wordP b p c k := fun j j1 j2 => by omega
theorem wordP_n {p c k : Nat} (hk : k < wlen c) (h : ¬ b (p + k) = wch c k) : ¬ wordP b p c k := fun q => h (q k (Nat.le_refl k) hk)
theorem c_has (hT : T ≤ 200) (hb : ∀ i, i < T → -128 ≤ b i ∧ b i < 128) {μ : Mem} (h : tbC T b μ) {p c : Nat} (hc : c < 7) (hp : p + wlen c ≤ T) : ∀ (d n k : Nat), k + d = wlen c → d < n → f_X9_hasWord_15 n (p : Int) (1000 + (c : Int)) (k : Int) μ = some (b2i (wordP b p c k), μ)
  | 0, n + 1, k, h1, h2 => by
    rw [f_X9_hasWord_15_e, if_pos (by omega), t_len (by omega), bd_some, if_pos (by omega), b2i_t (wordP_e (by omega))]
  | d + 1, n + 1, k, h1, h2 => by
    have hk : k < wlen c := by omega
    obtain ⟨u, u1, u2⟩ := c_byteAt h hT hb (p + k) (by omega)
    have hw := wch_b c (by omega) k (by have := (wlen_e c (by omega)).2.2; omega)
    rw [f_X9_hasWord_15_e, if_pos (by omega), t_len (by omega), bd_some, if_neg (by omega), if_pos (by omega), show (p : Int) + (k : Int) = ((p + k : Nat) : Int) by omega, u1, bd_some, t_chr (by omega) hk, bd_some]
    by_cases e : b (p + k) = wch c k
    · have ih := c_has hT hb h hc hp d n (k + 1) (by omega) (by omega)
      rw [if_pos (by omega), if_pos (by omega), show (k : Int) + 1 = ((k + 1 : Nat) : Int) by omega, ih, b2i_cong (wordP_s e)]
    · have hbp := hb (p + k) (by omega)
      rw [if_neg (by omega), b2i_f (wordP_n hk e)]
def wordQ (b : Nat → Int) (p q c : Nat) : Prop := q = p + wlen c ∧ wordP b p c 0
theorem c_hasWord (hT : T ≤ 200) (hb : ∀ i, i < T → -128 ≤ b i ∧ b i < 128) {μ : Mem} (h : tbC T b μ) {p q c : Nat} (hc : c < 7) (hpq : p ≤ q) (hq : q ≤ T) : f_X9_hasWord μ (p : Int) (q : Int) (1000 + (c : Int)) = some (b2i (wordQ b p q c), μ) := by
  unfold f_X9_hasWord
  rw [if_pos (by omega), t_len (by omega), bd_some, if_pos (by omega)]
  by_cases e : q = p + wlen c
  · have := c_has (p := p) hT hb h hc (by omega) (wlen c) 64 0 (by omega) (by have := (wlen_e c (by omega)).2.2; omega)
    rw [show ((0 : Nat) : Int) = 0 from rfl] at this
    rw [if_pos (by omega), this]
    exact (congrArg (fun z => some (z, μ)) (b2i_cong ⟨fun x => ⟨e, x⟩, fun x => x.2⟩))
  · rw [if_neg (by omega), b2i_f (fun x => e x.1)]
theorem r_is1 (hT : T ≤ 200) {ν : Mem} (h : tbR T b ν) {p c : Nat} (hc : c < 8) (hp : p + wlen c ≤ T) (hf : ν 300 21 = (p : Int)) : ∀ (d n k : Nat), k + d = wlen c → d + 1 < n → f_X11_isWord_31 n (1000 + (c : Int)) 1 (k : Int) ν = some (b2i (wordP b p c k), ν)
  | 0, n + 1, k, h1, h2 => by
    rw [f_X11_isWord_31_e, if_pos (by omega), t_len (by omega), bd_some, if_pos (by omega), if_pos (Or.inr rfl), b2i_t (wordP_e (by omega))]
  | d + 1, n + 2, k, h1, h2 => by
    have hk : k < wlen c := by omega
    have hv := h.2 (p + k) (by omega)
    rw [f_X11_isWord_31_e, if_pos (by omega), t_len (by omega), bd_some, if_neg (by omega), if_neg (by decide), if_pos (by omega), t_chr (by omega) hk, bd_some, hf, show ((p : Int) + (k : Int)).toNat = p + k by omega, hv]
    by_cases e : b (p + k) = wch c k
    · have ih := r_is1 hT h hc hp hf d (n + 1) (k + 1) (by omega) (by omega)
      rw [if_pos e, if_pos (by omega), show (k : Int) + 1 = ((k + 1 : Nat) : Int) by omega, ih, b2i_cong (wordP_s e)]
    · rw [if_neg e, if_pos (by omega), f_X11_isWord_31_e, if_pos (by omega), t_len (by omega), bd_some, b2i_f (wordP_n hk e)]
      by_cases e2 : (wlen c : Int) ≤ (k : Int) + 1
      · rw [if_pos e2, if_pos (Or.inl rfl)]
      · rw [if_neg e2, if_pos rfl, if_pos (Or.inl rfl)]
theorem r_is0 {ν : Mem} {c n : Nat} (hc : c < 8) : f_X11_isWord_31 (n + 1) (1000 + (c : Int)) 0 0 ν = some (0, ν) := by
  rw [f_X11_isWord_31_e, if_pos (by omega), t_len (by omega), bd_some]
  by_cases e2 : (wlen c : Int) ≤ 0
  · rw [if_pos e2, if_pos (Or.inl rfl)]
  · rw [if_neg e2, if_pos rfl, if_pos (Or.inl rfl)]
theorem r_isWord (hT : T ≤ 200) {ν : Mem} (h : tbR T b ν) {p q c : Nat} (hc : c < 7) (hpq : p ≤ q) (hq : q ≤ T) (hf : ν 300 21 = (p : Int)) (ha : ν 300 20 = (q : Int)) : f_X11_isWord ν (1000 + (c : Int)) = some (b2i (wordQ b p q c), ν) := by
  have hw0 : ∀ c : Nat, c < 7 → 0 < wlen c := by decide +kernel
  have hw := hw0 c hc
  unfold f_X11_isWord
  rw [if_pos (by omega), t_len (by omega), bd_some, if_neg (by omega), t_len (by omega), bd_some, ha, hf, if_pos (by omega)]
  by_cases e : q = p + wlen c
  · have := r_is1 (p := p) (c := c) hT h (by omega) (by omega) hf (wlen c) 64 0 (by omega) (by have := (wlen_e c (by omega)).2.2; omega)
    rw [show ((0 : Nat) : Int) = 0 from rfl] at this
    rw [if_pos (by omega), this]
    exact (congrArg (fun z => some (z, ν)) (b2i_cong ⟨fun x => ⟨e, x⟩, fun x => x.2⟩))
  · rw [if_neg (by omega), r_is0 (by omega), b2i_f (fun x => e x.1)]
theorem r_isNone {ν : Mem} : f_X11_isWord ν 1007 = some (0, ν) := by
  have h0 : wlen 7 = 0 := by decide +kernel
  have h1 : f_J0_length_8abf5 ν 1007 = some (0, ν) := by
    have := t_len (μ := ν) (c := 7) (by decide)
    rw [h0] at this
    exact this
  unfold f_X11_isWord
  rw [if_pos (by omega), h1, bd_some, if_pos (by omega)]
  exact r_is0 (c := 7) (by decide)
end TBL
