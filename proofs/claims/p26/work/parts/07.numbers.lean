/-! plain facts to paste, each family by itself; over the kit's nI, lN and upd -/
/-! ===== drawers: more things than places ===== -/
theorem fb_holes : ∀ (m n : Nat) (f : Nat → Nat), (∀ i, i < n → f i < m) → (∀ i j, i < j → j < n → f i ≠ f j) → n ≤ m := by
  intro m
  induction m with
  | zero =>
    intro n f h1 _
    rcases Nat.eq_zero_or_pos n with h | h
    · omega
    · exact absurd (h1 0 h) (Nat.not_lt_zero _)
  | succ m ih =>
    intro n f h1 h2
    by_cases hx : ∃ i, i < n ∧ f i = m
    · obtain ⟨a, ha, hfa⟩ := hx
      have hg := ih (n - 1) (fun i => if i < a then f i else f (i + 1)) (by
        intro i hi
        by_cases q : i < a
        · simp only [if_pos q]
          have b1 := h1 i (by omega)
          have b2 := h2 i a q ha
          omega
        · simp only [if_neg q]
          have b1 := h1 (i + 1) (by omega)
          have b2 := h2 a (i + 1) (by omega) (by omega)
          omega) (by
        intro i j hij hj
        by_cases q : i < a
        · by_cases r : j < a
          · simp only [if_pos q, if_pos r]
            exact h2 i j hij (by omega)
          · simp only [if_pos q, if_neg r]
            exact h2 i (j + 1) (by omega) (by omega)
        · have r : ¬ j < a := by omega
          simp only [if_neg q, if_neg r]
          exact h2 (i + 1) (j + 1) (by omega) (by omega))
      omega
    · have hg := ih n f (fun i hi => by
        have b1 := h1 i hi
        have b2 : f i ≠ m := fun e => hx ⟨i, hi, e⟩
        omega) h2
      omega
/-- two of them in one place -/
theorem fb_twice {m n : Nat} {f : Nat → Nat} (h : ∀ i, i < n → f i < m) (hm : m < n) : ∃ i j, i < j ∧ j < n ∧ f i = f j := by
  refine Classical.byContradiction fun hx => ?_
  have := fb_holes m n f h (fun i j hij hj e => hx ⟨i, j, hij, hj, e⟩)
  omega
/-- as many as places, none twice: each place is taken -/
theorem fb_onto {n : Nat} {f : Nat → Nat} (h : ∀ i, i < n → f i < n) (h2 : ∀ i j, i < j → j < n → f i ≠ f j) {y : Nat} (hy : y < n) : ∃ i, i < n ∧ f i = y := by
  refine Classical.byContradiction fun hx => ?_
  have hne : ∀ i, i < n → f i ≠ y := fun i hi e => hx ⟨i, hi, e⟩
  have := fb_holes (n - 1) n (fun i => if f i < y then f i else f i - 1) (by
    intro i hi
    have b1 := h i hi
    have b2 := hne i hi
    by_cases q : f i < y
    · simp only [if_pos q]; omega
    · simp only [if_neg q]; omega) (by
    intro i j hij hj
    have b1 := hne i (by omega)
    have b2 := hne j hj
    have b3 := h2 i j hij hj
    by_cases q : f i < y
    · by_cases r : f j < y
      · simp only [if_pos q, if_pos r]; exact b3
      · simp only [if_pos q, if_neg r]; omega
    · by_cases r : f j < y
      · simp only [if_neg q, if_pos r]; omega
      · simp only [if_neg q, if_neg r]; omega)
  omega
/-! ===== how many places have a property ===== -/
def fb_ct (p : Nat → Bool) : Nat → Nat
  | 0 => 0
  | n + 1 => fb_ct p n + (if p n then 1 else 0)
theorem fb_ct_succ (p : Nat → Bool) (n : Nat) : fb_ct p (n + 1) = fb_ct p n + (if p n then 1 else 0) := rfl
theorem fb_ct_le (p : Nat → Bool) : ∀ n, fb_ct p n ≤ n
  | 0 => Nat.le_refl _
  | n + 1 => by
    have h := fb_ct_le p n
    rw [fb_ct_succ]
    split <;> omega
theorem fb_ct_step (p : Nat → Bool) (m : Nat) : ∀ n, fb_ct p m ≤ fb_ct p (m + n)
  | 0 => Nat.le_refl _
  | n + 1 => by
    have h := fb_ct_step p m n
    show fb_ct p m ≤ fb_ct p (m + n + 1)
    rw [fb_ct_succ]
    omega
theorem fb_ct_mono (p : Nat → Bool) {m n : Nat} (h : m ≤ n) : fb_ct p m ≤ fb_ct p n := by
  have := fb_ct_step p m (n - m)
  rwa [Nat.add_sub_cancel' h] at this
theorem fb_ct_cong {p q : Nat → Bool} : ∀ {n : Nat}, (∀ k, k < n → p k = q k) → fb_ct p n = fb_ct q n
  | 0, _ => rfl
  | n + 1, h => by
    rw [fb_ct_succ, fb_ct_succ, fb_ct_cong (fun k hk => h k (by omega)), h n (by omega)]
/-- one place changed -/
theorem fb_ct_out (p : Nat → Bool) (b : Bool) {i n : Nat} (h : n ≤ i) : fb_ct (fun k => if k = i then b else p k) n = fb_ct p n :=
  fb_ct_cong fun k hk => if_neg (by omega)
theorem fb_ct_upd (p : Nat → Bool) (b : Bool) {i : Nat} : ∀ {n : Nat}, i < n → fb_ct (fun k => if k = i then b else p k) n + (if p i then 1 else 0) = fb_ct p n + (if b then 1 else 0)
  | 0, h => absurd h (Nat.not_lt_zero i)
  | n + 1, h => by
    rw [fb_ct_succ, fb_ct_succ]
    rcases Nat.lt_or_ge i n with q | q
    · have := fb_ct_upd p b q
      have e : (if n = i then b else p n) = p n := if_neg (by omega)
      rw [e]
      omega
    · have e : i = n := by omega
      subst e
      rw [fb_ct_out p b (Nat.le_refl _)]
      simp only [if_true]
      omega
theorem fb_ct_sub {p q : Nat → Bool} : ∀ {n : Nat}, (∀ k, k < n → p k = true → q k = true) → fb_ct p n ≤ fb_ct q n
  | 0, _ => Nat.le_refl _
  | n + 1, h => by
    have h1 := fb_ct_sub (n := n) (p := p) (q := q) (fun k hk => h k (by omega))
    have h2 := h n (by omega)
    rw [fb_ct_succ, fb_ct_succ]
    cases hp : p n <;> cases hq : q n <;> simp_all <;> omega
theorem fb_ct_or {p q : Nat → Bool} : ∀ {n : Nat}, (∀ k, k < n → ¬ (p k = true ∧ q k = true)) → fb_ct (fun k => p k || q k) n = fb_ct p n + fb_ct q n
  | 0, _ => rfl
  | n + 1, h => by
    have h1 := fb_ct_or (n := n) (p := p) (q := q) (fun k hk => h k (by omega))
    have h2 := h n (by omega)
    rw [fb_ct_succ, fb_ct_succ, fb_ct_succ, h1]
    cases hp : p n <;> cases hq : q n <;> simp_all <;> omega
theorem fb_ct_not (p : Nat → Bool) : ∀ n, fb_ct p n + fb_ct (fun k => !p k) n = n
  | 0 => rfl
  | n + 1 => by
    have h := fb_ct_not p n
    rw [fb_ct_succ, fb_ct_succ]
    cases p n <;> simp <;> omega
theorem fb_ct_split (p : Nat → Bool) (m : Nat) : ∀ n, fb_ct p (m + n) = fb_ct p m + fb_ct (fun k => p (m + k)) n
  | 0 => rfl
  | n + 1 => by
    have h := fb_ct_split p m n
    show fb_ct p (m + n + 1) = _
    rw [fb_ct_succ, fb_ct_succ, h, Nat.add_assoc]
theorem fb_ct_zero {p : Nat → Bool} : ∀ {n : Nat}, fb_ct p n = 0 ↔ ∀ k, k < n → p k = false
  | 0 => ⟨fun _ k hk => absurd hk (Nat.not_lt_zero k), fun _ => rfl⟩
  | n + 1 => by
    have h := fb_ct_zero (p := p) (n := n)
    rw [fb_ct_succ]
    constructor
    · intro e k hk
      have e1 : fb_ct p n = 0 := by omega
      rcases Nat.lt_or_ge k n with q | q
      · exact h.mp e1 k q
      · have ek : k = n := by omega
        subst ek
        cases hp : p k
        · rfl
        · simp [hp] at e
    · intro a
      rw [h.mpr (fun k hk => a k (by omega)), a n (by omega)]
      rfl
theorem fb_ct_pos {p : Nat → Bool} {n : Nat} : 0 < fb_ct p n ↔ ∃ k, k < n ∧ p k = true := by
  constructor
  · intro h
    refine Classical.byContradiction fun hx => ?_
    have := fb_ct_zero.mpr (fun k hk => by
      cases hp : p k
      · rfl
      · exact absurd ⟨k, hk, hp⟩ hx : ∀ k, k < n → p k = false)
    omega
  · rintro ⟨k, hk, hp⟩
    rcases Nat.eq_zero_or_pos (fb_ct p n) with e | e
    · have := fb_ct_zero.mp e k hk
      rw [this] at hp
      cases hp
    · exact e
theorem fb_ct_all {p : Nat → Bool} {n : Nat} : fb_ct p n = n ↔ ∀ k, k < n → p k = true := by
  have h := fb_ct_not p n
  constructor
  · intro e k hk
    have z : fb_ct (fun k => !p k) n = 0 := by omega
    have := fb_ct_zero.mp z k hk
    cases hp : p k
    · simp [hp] at this
    · rfl
  · intro a
    have z : fb_ct (fun k => !p k) n = 0 := fb_ct_zero.mpr (fun k hk => by simp [a k hk])
    omega
/-- the k-th place with the property -/
theorem fb_ct_kth {p : Nat → Bool} {k : Nat} : ∀ {n : Nat}, k < fb_ct p n → ∃ i, i < n ∧ p i = true ∧ fb_ct p i = k
  | 0, h => absurd h (Nat.not_lt_zero k)
  | n + 1, h => by
    rcases Nat.lt_or_ge k (fb_ct p n) with q | q
    · obtain ⟨i, h1, h2⟩ := fb_ct_kth q
      exact ⟨i, by omega, h2⟩
    · rw [fb_ct_succ] at h
      cases hp : p n
      · simp [hp] at h; omega
      · simp [hp] at h
        exact ⟨n, by omega, hp, by omega⟩
theorem fb_ct_kth_one {p : Nat → Bool} {i j : Nat} (hi : p i = true) (hj : p j = true) (e : fb_ct p i = fb_ct p j) : i = j := by
  have key : ∀ a b : Nat, a < b → p a = true → fb_ct p a < fb_ct p b := by
    intro a b hab ha
    have h := fb_ct_mono p (show a + 1 ≤ b from hab)
    rw [fb_ct_succ, ha] at h
    simp at h
    omega
  rcases Nat.lt_trichotomy i j with q | q | q
  · have := key i j q hi; omega
  · exact q
  · have := key j i q hj; omega
/-! ===== sums over a range: one place changed, parts, bounds ===== -/
def fb_sm (f : Nat → Nat) : Nat → Nat
  | 0 => 0
  | n + 1 => fb_sm f n + f n
theorem fb_sm_succ (f : Nat → Nat) (n : Nat) : fb_sm f (n + 1) = fb_sm f n + f n := rfl
theorem fb_sm_cong {f g : Nat → Nat} : ∀ {n : Nat}, (∀ k, k < n → f k = g k) → fb_sm f n = fb_sm g n
  | 0, _ => rfl
  | n + 1, h => by rw [fb_sm_succ, fb_sm_succ, fb_sm_cong (fun k hk => h k (by omega)), h n (by omega)]
theorem fb_sm_out (f : Nat → Nat) (v : Nat) {i n : Nat} (h : n ≤ i) : fb_sm (fun k => if k = i then v else f k) n = fb_sm f n :=
  fb_sm_cong fun k hk => if_neg (by omega)
theorem fb_sm_upd (f : Nat → Nat) (v : Nat) {i : Nat} : ∀ {n : Nat}, i < n → fb_sm (fun k => if k = i then v else f k) n + f i = fb_sm f n + v
  | 0, h => absurd h (Nat.not_lt_zero i)
  | n + 1, h => by
    rw [fb_sm_succ, fb_sm_succ]
    rcases Nat.lt_or_ge i n with q | q
    · have := fb_sm_upd f v q
      have e : (if n = i then v else f n) = f n := if_neg (by omega)
      rw [e]
      omega
    · have e : i = n := by omega
      subst e
      rw [fb_sm_out f v (Nat.le_refl _)]
      simp only [if_true]
      omega
theorem fb_sm_add (f g : Nat → Nat) : ∀ n, fb_sm (fun k => f k + g k) n = fb_sm f n + fb_sm g n
  | 0 => rfl
  | n + 1 => by
    have h := fb_sm_add f g n
    rw [fb_sm_succ, fb_sm_succ, fb_sm_succ, h]
    omega
theorem fb_sm_le {f g : Nat → Nat} : ∀ {n : Nat}, (∀ k, k < n → f k ≤ g k) → fb_sm f n ≤ fb_sm g n
  | 0, _ => Nat.le_refl _
  | n + 1, h => by
    have h1 := fb_sm_le (n := n) (f := f) (g := g) (fun k hk => h k (by omega))
    have h2 := h n (by omega)
    rw [fb_sm_succ, fb_sm_succ]
    omega
theorem fb_sm_const (c : Nat) : ∀ n, fb_sm (fun _ => c) n = n * c
  | 0 => by rw [Nat.zero_mul]; rfl
  | n + 1 => by rw [fb_sm_succ, fb_sm_const c n, Nat.succ_mul]
theorem fb_sm_bound {f : Nat → Nat} {c n : Nat} (h : ∀ k, k < n → f k ≤ c) : fb_sm f n ≤ n * c := by
  rw [← fb_sm_const c n]
  exact fb_sm_le h
theorem fb_sm_mono (f : Nat → Nat) (m : Nat) : ∀ n, fb_sm f m ≤ fb_sm f (m + n)
  | 0 => Nat.le_refl _
  | n + 1 => by
    have h := fb_sm_mono f m n
    show fb_sm f m ≤ fb_sm f (m + n + 1)
    rw [fb_sm_succ]
    omega
theorem fb_sm_part (f : Nat → Nat) {i n : Nat} (h : i < n) : fb_sm f i + f i ≤ fb_sm f n := by
  have := fb_sm_mono f (i + 1) (n - (i + 1))
  rw [fb_sm_succ, show i + 1 + (n - (i + 1)) = n by omega] at this
  exact this
theorem fb_sm_split (f : Nat → Nat) (m : Nat) : ∀ n, fb_sm f (m + n) = fb_sm f m + fb_sm (fun k => f (m + k)) n
  | 0 => rfl
  | n + 1 => by
    have h := fb_sm_split f m n
    show fb_sm f (m + n + 1) = _
    rw [fb_sm_succ, fb_sm_succ, h, Nat.add_assoc]
theorem fb_sm_zero {f : Nat → Nat} {n : Nat} (h : fb_sm f n = 0) : ∀ k, k < n → f k = 0 := fun k hk => by
  have := fb_sm_part f hk
  omega
/-- the same over whole numbers -/
def fb_si (f : Nat → Int) : Nat → Int
  | 0 => 0
  | n + 1 => fb_si f n + f n
theorem fb_si_succ (f : Nat → Int) (n : Nat) : fb_si f (n + 1) = fb_si f n + f n := rfl
theorem fb_si_cong {f g : Nat → Int} : ∀ {n : Nat}, (∀ k, k < n → f k = g k) → fb_si f n = fb_si g n
  | 0, _ => rfl
  | n + 1, h => by rw [fb_si_succ, fb_si_succ, fb_si_cong (fun k hk => h k (by omega)), h n (by omega)]
theorem fb_si_out (f : Nat → Int) (v : Int) {i n : Nat} (h : n ≤ i) : fb_si (fun k => if k = i then v else f k) n = fb_si f n :=
  fb_si_cong fun k hk => if_neg (by omega)
theorem fb_si_upd (f : Nat → Int) (v : Int) {i : Nat} : ∀ {n : Nat}, i < n → fb_si (fun k => if k = i then v else f k) n = fb_si f n - f i + v
  | 0, h => absurd h (Nat.not_lt_zero i)
  | n + 1, h => by
    rw [fb_si_succ, fb_si_succ]
    rcases Nat.lt_or_ge i n with q | q
    · have := fb_si_upd f v q
      have e : (if n = i then v else f n) = f n := if_neg (by omega)
      rw [e]
      omega
    · have e : i = n := by omega
      subst e
      rw [fb_si_out f v (Nat.le_refl _)]
      simp only [if_true]
      omega
theorem fb_si_add (f g : Nat → Int) : ∀ n, fb_si (fun k => f k + g k) n = fb_si f n + fb_si g n
  | 0 => rfl
  | n + 1 => by
    have h := fb_si_add f g n
    rw [fb_si_succ, fb_si_succ, fb_si_succ, h]
    omega
theorem fb_si_sub (f g : Nat → Int) : ∀ n, fb_si (fun k => f k - g k) n = fb_si f n - fb_si g n
  | 0 => rfl
  | n + 1 => by
    have h := fb_si_sub f g n
    rw [fb_si_succ, fb_si_succ, fb_si_succ, h]
    omega
theorem fb_si_mul (c : Int) (f : Nat → Int) : ∀ n, fb_si (fun k => c * f k) n = c * fb_si f n
  | 0 => (Int.mul_zero c).symm
  | n + 1 => by
    have h := fb_si_mul c f n
    rw [fb_si_succ, fb_si_succ, h, Int.mul_add]
theorem fb_si_split (f : Nat → Int) (m : Nat) : ∀ n, fb_si f (m + n) = fb_si f m + fb_si (fun k => f (m + k)) n
  | 0 => (Int.add_zero _).symm
  | n + 1 => by
    have h := fb_si_split f m n
    show fb_si f (m + n + 1) = _
    rw [fb_si_succ, fb_si_succ, h, Int.add_assoc]
theorem fb_si_nat (f : Nat → Nat) : ∀ n, fb_si (fun k => (f k : Int)) n = (fb_sm f n : Int)
  | 0 => rfl
  | n + 1 => by
    have h := fb_si_nat f n
    rw [fb_si_succ, fb_sm_succ, h]
    omega
theorem fb_si_bound {f : Nat → Int} {c : Int} (hc : 0 ≤ c) : ∀ {n : Nat}, (∀ k, k < n → -c ≤ f k ∧ f k ≤ c) → -(n * c) ≤ fb_si f n ∧ fb_si f n ≤ n * c
  | 0, _ => by simp [fb_si]
  | n + 1, h => by
    have h1 := fb_si_bound (n := n) (f := f) hc (fun k hk => h k (by omega))
    have h2 := h n (by omega)
    have e : ((n + 1 : Nat) : Int) * c = n * c + c := by rw [Int.natCast_add, Int.add_mul]; simp
    rw [fb_si_succ, e]
    omega
/-! ===== bits of a long that isn't negative ===== -/
theorem fb_andL (a b : Nat) : lN a &&& lN b = lN (a &&& b) := by
  apply Int64.toBitVec_inj.1
  show BitVec.ofNat 64 a &&& BitVec.ofNat 64 b = BitVec.ofNat 64 (a &&& b)
  apply BitVec.eq_of_getLsbD_eq
  intro i hi
  simp [hi]
theorem fb_orL (a b : Nat) : lN a ||| lN b = lN (a ||| b) := by
  apply Int64.toBitVec_inj.1
  show BitVec.ofNat 64 a ||| BitVec.ofNat 64 b = BitVec.ofNat 64 (a ||| b)
  apply BitVec.eq_of_getLsbD_eq
  intro i hi
  simp [hi]
theorem fb_xorL (a b : Nat) : lN a ^^^ lN b = lN (a ^^^ b) := by
  apply Int64.toBitVec_inj.1
  show BitVec.ofNat 64 a ^^^ BitVec.ofNat 64 b = BitVec.ofNat 64 (a ^^^ b)
  apply BitVec.eq_of_getLsbD_eq
  intro i hi
  simp [hi]
theorem fb_xorI (a b : Nat) : nI a ^^^ nI b = nI (a ^^^ b) := by
  apply Int32.toBitVec_inj.1
  show BitVec.ofNat 32 a ^^^ BitVec.ofNat 32 b = BitVec.ofNat 32 (a ^^^ b)
  apply BitVec.eq_of_getLsbD_eq
  intro i hi
  simp [hi]
theorem fb_maskL (n k : Nat) : lN n &&& lN (2 ^ k - 1) = lN (n % 2 ^ k) := by rw [fb_andL, Nat.and_two_pow_sub_one_eq_mod]
theorem fb_or_sumL {a k : Nat} (b : Nat) (h : a < 2 ^ k) : lN (2 ^ k * b) ||| lN a = lN (2 ^ k * b + a) := by rw [fb_orL, Nat.two_pow_add_eq_or_of_lt h]
theorem fb_lN_inj {a b : Nat} (ha : a < 2 ^ 63) (hb : b < 2 ^ 63) : lN a = lN b ↔ a = b := by
  constructor
  · intro h
    have h1 : (BitVec.ofNat 64 a).toNat = (BitVec.ofNat 64 b).toNat := congrArg (fun x : Int64 => x.toBitVec.toNat) h
    rw [BitVec.toNat_ofNat, BitVec.toNat_ofNat, Nat.mod_eq_of_lt (by omega), Nat.mod_eq_of_lt (by omega)] at h1
    exact h1
  · rintro rfl; rfl
theorem fb_bit_nat (n j : Nat) : n &&& 2 ^ j = 0 ↔ n.testBit j = false := by
  constructor
  · intro h
    have h1 : (n &&& 2 ^ j).testBit j = false := by rw [h]; simp
    rw [Nat.testBit_and] at h1
    simpa using h1
  · intro h
    apply Nat.eq_of_testBit_eq
    intro i
    rw [Nat.testBit_and]
    by_cases hi : j = i
    · subst hi; simp [h]
    · first | (simp [Nat.testBit_two_pow, hi]; done) | (simp [Nat.testBit_two_pow_of_ne hi]; done)
/-- one bit of a long -/
theorem fb_bitL {n j : Nat} (hj : j < 63) : lN n &&& lN (2 ^ j) = 0 ↔ n.testBit j = false := by
  have h2 : (2 : Nat) ^ j < 2 ^ 63 := Nat.pow_lt_pow_right (by decide) hj
  have hle : n &&& 2 ^ j ≤ 2 ^ j := Nat.and_le_right
  rw [fb_andL, ← fb_bit_nat, show (0 : Int64) = lN 0 from rfl]
  exact fb_lN_inj (by omega) (by decide)
/-- a bit set, a bit taken off -/
theorem fb_bit_set (n j i : Nat) : (n ||| 2 ^ j).testBit i = (n.testBit i || decide (i = j)) := by
  rw [Nat.testBit_or]
  by_cases h : j = i
  · subst h; simp
  · have h2 : ¬ i = j := fun e => h e.symm
    first | (simp [Nat.testBit_two_pow, h, h2]; done) | (simp [Nat.testBit_two_pow_of_ne h, h2]; done)
theorem fb_bit_flip (n j i : Nat) : (n ^^^ 2 ^ j).testBit i = (n.testBit i ^^ decide (i = j)) := by
  rw [Nat.testBit_xor]
  by_cases h : j = i
  · subst h; simp
  · have h2 : ¬ i = j := fun e => h e.symm
    first | (simp [Nat.testBit_two_pow, h, h2]; done) | (simp [Nat.testBit_two_pow_of_ne h, h2]; done)
/-! ===== a stretch of an array written over by a function ===== -/
def fb_put {α : Type} (f g : Nat → α) (a n : Nat) : Nat → α := fun k => if a ≤ k ∧ k < a + n then g (k - a) else f k
theorem fb_put_0 {α : Type} (f g : Nat → α) (a : Nat) : fb_put f g a 0 = f := funext fun k => if_neg (by omega)
theorem fb_put_in {α : Type} {f g : Nat → α} {a n k : Nat} (h1 : a ≤ k) (h2 : k < a + n) : fb_put f g a n k = g (k - a) := if_pos ⟨h1, h2⟩
theorem fb_put_out {α : Type} {f g : Nat → α} {a n k : Nat} (h : k < a ∨ a + n ≤ k) : fb_put f g a n k = f k := if_neg (by omega)
theorem fb_put_succ (f g : Nat → Int32) (a n : Nat) : upd (fb_put f g a n) (a + n) (g n) = fb_put f g a (n + 1) := by
  funext k
  by_cases h : k = a + n
  · subst h
    simp [upd, fb_put]
  · by_cases h1 : a ≤ k ∧ k < a + n
    · have h2 : a ≤ k ∧ k < a + (n + 1) := by omega
      simp only [upd, fb_put, if_neg h, if_pos h1, if_pos h2]
    · have h2 : ¬ (a ≤ k ∧ k < a + (n + 1)) := by omega
      simp only [upd, fb_put, if_neg h, if_neg h1, if_neg h2]
/-- .. from the far end down -/
theorem fb_put_down (f g : Nat → Int32) {a n m : Nat} (h : m < n) : upd (fb_put f (fun k => g (k + (m + 1))) (a + (m + 1)) (n - (m + 1))) (a + m) (g m) = fb_put f (fun k => g (k + m)) (a + m) (n - m) := by
  funext k
  by_cases h0 : k = a + m
  · subst h0
    simp only [upd, if_true]
    rw [fb_put_in (by omega) (by omega)]
    exact congrArg g (by omega)
  · simp only [upd, if_neg h0]
    by_cases h1 : a + (m + 1) ≤ k ∧ k < a + (m + 1) + (n - (m + 1))
    · rw [fb_put_in h1.1 h1.2, fb_put_in (by omega) (by omega)]
      exact congrArg g (by omega)
    · rw [fb_put_out (by omega), fb_put_out (by omega)]
theorem fb_put_cong {α : Type} {f f2 g g2 : Nat → α} {a n : Nat} (hf : ∀ k, (k < a ∨ a + n ≤ k) → f k = f2 k) (hg : ∀ k, k < n → g k = g2 k) : fb_put f g a n = fb_put f2 g2 a n := by
  funext k
  by_cases h : a ≤ k ∧ k < a + n
  · rw [fb_put_in h.1 h.2, fb_put_in h.1 h.2, hg _ (by omega)]
  · rw [fb_put_out (by omega), fb_put_out (by omega), hf _ (by omega)]
/-! ===== the least, the first, the best so far; that there is one alone ===== -/
theorem fb_first {p : Nat → Prop} [DecidablePred p] : ∀ {n : Nat}, (∃ i, i < n ∧ p i) → ∃ i, i < n ∧ p i ∧ ∀ j, j < i → ¬ p j
  | 0, h => by obtain ⟨i, hi, -⟩ := h; exact absurd hi (Nat.not_lt_zero i)
  | n + 1, h => by
    by_cases q : ∃ i, i < n ∧ p i
    · obtain ⟨i, h1, h2⟩ := fb_first q
      exact ⟨i, by omega, h2⟩
    · obtain ⟨i, h1, h2⟩ := h
      have e : i = n := by
        rcases Nat.lt_or_ge i n with r | r
        · exact absurd ⟨i, r, h2⟩ q
        · omega
      subst e
      exact ⟨i, by omega, h2, fun j hj hp => q ⟨j, hj, hp⟩⟩
theorem fb_first_one {p : Nat → Prop} {i j : Nat} (hi : p i) (hi2 : ∀ k, k < i → ¬ p k) (hj : p j) (hj2 : ∀ k, k < j → ¬ p k) : i = j := by
  rcases Nat.lt_trichotomy i j with q | q | q
  · exact absurd hi (hj2 i q)
  · exact q
  · exact absurd hj (hi2 j q)
theorem fb_last {p : Nat → Prop} [DecidablePred p] : ∀ {n : Nat}, (∃ i, i < n ∧ p i) → ∃ i, i < n ∧ p i ∧ ∀ j, i < j → j < n → ¬ p j
  | 0, h => by obtain ⟨i, hi, -⟩ := h; exact absurd hi (Nat.not_lt_zero i)
  | n + 1, h => by
    by_cases q : p n
    · exact ⟨n, by omega, q, fun j h1 h2 => by omega⟩
    · obtain ⟨i, h1, h2⟩ := h
      have hi : i < n := by
        rcases Nat.lt_or_ge i n with r | r
        · exact r
        · have e : i = n := by omega
          subst e
          exact absurd h2 q
      obtain ⟨i2, a1, a2, a3⟩ := fb_last (n := n) ⟨i, hi, h2⟩
      refine ⟨i2, by omega, a2, fun j b1 b2 => ?_⟩
      rcases Nat.lt_or_ge j n with r | r
      · exact a3 j b1 r
      · have e : j = n := by omega
        subst e
        exact q
/-- the first greatest -/
theorem fb_best (f : Nat → Int) : ∀ {n : Nat}, 0 < n → ∃ i, i < n ∧ (∀ j, j < n → f j ≤ f i) ∧ ∀ j, j < i → f j < f i
  | 0, h => absurd h (Nat.lt_irrefl 0)
  | 1, _ => ⟨0, by omega, fun j hj => by have e : j = 0 := by omega
                                         subst e; exact Int.le_refl _, fun j hj => absurd hj (Nat.not_lt_zero j)⟩
  | n + 2, _ => by
    obtain ⟨i, h1, h2, h3⟩ := fb_best f (n := n + 1) (by omega)
    by_cases q : f i < f (n + 1)
    · refine ⟨n + 1, by omega, fun j hj => ?_, fun j hj => ?_⟩
      · rcases Nat.lt_or_ge j (n + 1) with r | r
        · have := h2 j r; omega
        · have e : j = n + 1 := by omega
          subst e; exact Int.le_refl _
      · have := h2 j hj; omega
    · refine ⟨i, by omega, fun j hj => ?_, h3⟩
      rcases Nat.lt_or_ge j (n + 1) with r | r
      · exact h2 j r
      · have e : j = n + 1 := by omega
        subst e; omega
theorem fb_best_one {f : Nat → Int} {n i j : Nat} (hi : i < n) (hi2 : ∀ k, k < n → f k ≤ f i) (hi3 : ∀ k, k < i → f k < f i) (hj : j < n) (hj2 : ∀ k, k < n → f k ≤ f j) (hj3 : ∀ k, k < j → f k < f j) : i = j := by
  rcases Nat.lt_trichotomy i j with q | q | q
  · have a := hj3 i q
    have b := hi2 j hj
    omega
  · exact q
  · have a := hi3 j q
    have b := hj2 i hi
    omega
/-- the first least -/
theorem fb_low (f : Nat → Int) {n : Nat} (h : 0 < n) : ∃ i, i < n ∧ (∀ j, j < n → f i ≤ f j) ∧ ∀ j, j < i → f i < f j := by
  obtain ⟨i, h1, h2, h3⟩ := fb_best (fun k => -f k) h
  exact ⟨i, h1, fun j hj => by have := h2 j hj; omega, fun j hj => by have := h3 j hj; omega⟩
/-! ===== signed ints as whole numbers, within bounds ===== -/
theorem fb_rng (x : Int32) : -2147483648 ≤ x.toInt ∧ x.toInt < 2147483648 := by
  have h1 := Int32.le_toInt x
  have h2 := Int32.toInt_lt x
  omega
theorem fb_bmod {z : Int} (h1 : -2147483648 ≤ z) (h2 : z < 2147483648) : z.bmod (2 ^ 32) = z := by
  rw [Int.bmod_eq_of_le (by omega) (by omega)]
theorem fb_addI {x y : Int32} (h1 : -2147483648 ≤ x.toInt + y.toInt) (h2 : x.toInt + y.toInt < 2147483648) : (x + y).toInt = x.toInt + y.toInt := by
  rw [Int32.toInt_add, fb_bmod h1 h2]
theorem fb_subI {x y : Int32} (h1 : -2147483648 ≤ x.toInt - y.toInt) (h2 : x.toInt - y.toInt < 2147483648) : (x - y).toInt = x.toInt - y.toInt := by
  rw [Int32.toInt_sub, fb_bmod h1 h2]
theorem fb_mulI {x y : Int32} (h1 : -2147483648 ≤ x.toInt * y.toInt) (h2 : x.toInt * y.toInt < 2147483648) : (x * y).toInt = x.toInt * y.toInt := by
  rw [Int32.toInt_mul, fb_bmod h1 h2]
theorem fb_negI {x : Int32} (h : x.toInt ≠ -2147483648) : (-x).toInt = -x.toInt := by
  have := fb_rng x
  rw [Int32.toInt_neg, fb_bmod (by omega) (by omega)]
theorem fb_ofI {z : Int} (h1 : -2147483648 ≤ z) (h2 : z < 2147483648) : (Int32.ofInt z).toInt = z := by
  rw [Int32.toInt_ofInt, fb_bmod h1 h2]
theorem fb_asI (x : Int32) : Int32.ofInt x.toInt = x := Int32.ofInt_toInt x
theorem fb_rngL (x : Int64) : -9223372036854775808 ≤ x.toInt ∧ x.toInt < 9223372036854775808 := by
  have h1 := Int64.le_toInt x
  have h2 := Int64.toInt_lt x
  omega
theorem fb_bmodL {z : Int} (h1 : -9223372036854775808 ≤ z) (h2 : z < 9223372036854775808) : z.bmod (2 ^ 64) = z := by
  rw [Int.bmod_eq_of_le (by omega) (by omega)]
theorem fb_addL {x y : Int64} (h1 : -9223372036854775808 ≤ x.toInt + y.toInt) (h2 : x.toInt + y.toInt < 9223372036854775808) : (x + y).toInt = x.toInt + y.toInt := by
  rw [Int64.toInt_add, fb_bmodL h1 h2]
theorem fb_subL {x y : Int64} (h1 : -9223372036854775808 ≤ x.toInt - y.toInt) (h2 : x.toInt - y.toInt < 9223372036854775808) : (x - y).toInt = x.toInt - y.toInt := by
  rw [Int64.toInt_sub, fb_bmodL h1 h2]
theorem fb_mulL {x y : Int64} (h1 : -9223372036854775808 ≤ x.toInt * y.toInt) (h2 : x.toInt * y.toInt < 9223372036854775808) : (x * y).toInt = x.toInt * y.toInt := by
  rw [Int64.toInt_mul, fb_bmodL h1 h2]
/-! ===== cuts of what is narrow already ===== -/
theorem fb_byte {x : Int32} (h1 : -128 ≤ x.toInt) (h2 : x.toInt < 128) : x.toInt8.toInt32 = x := by
  apply Int32.toInt_inj.1
  rw [Int8.toInt_toInt32, Int32.toInt_toInt8, Int.bmod_eq_of_le (by omega) (by omega)]
theorem fb_short {x : Int32} (h1 : -32768 ≤ x.toInt) (h2 : x.toInt < 32768) : x.toInt16.toInt32 = x := by
  apply Int32.toInt_inj.1
  rw [Int16.toInt_toInt32, Int32.toInt_toInt16, Int.bmod_eq_of_le (by omega) (by omega)]
theorem fb_byte_rng (x : Int32) : -128 ≤ x.toInt8.toInt32.toInt ∧ x.toInt8.toInt32.toInt < 128 := by
  rw [Int8.toInt_toInt32]
  have h1 := Int8.le_toInt x.toInt8
  have h2 := Int8.toInt_lt x.toInt8
  omega
theorem fb_short_rng (x : Int32) : -32768 ≤ x.toInt16.toInt32.toInt ∧ x.toInt16.toInt32.toInt < 32768 := by
  rw [Int16.toInt_toInt32]
  have h1 := Int16.le_toInt x.toInt16
  have h2 := Int16.toInt_lt x.toInt16
  omega
theorem fb_byte_twice (x : Int32) : x.toInt8.toInt32.toInt8.toInt32 = x.toInt8.toInt32 := fb_byte (fb_byte_rng x).1 (fb_byte_rng x).2
theorem fb_short_twice (x : Int32) : x.toInt16.toInt32.toInt16.toInt32 = x.toInt16.toInt32 := fb_short (fb_short_rng x).1 (fb_short_rng x).2
theorem fb_char {n : Nat} (h : n < 65536) : (nI n).toUInt32.toUInt16.toUInt32.toInt32 = nI n := by
  apply Int32.toBitVec_inj.1
  apply BitVec.eq_of_toNat_eq
  have e1 : (nI n).toBitVec.toNat = n := by
    show (BitVec.ofNat 32 n).toNat = n
    rw [BitVec.toNat_ofNat, Nat.mod_eq_of_lt (by omega)]
  have e2 : ((nI n).toUInt32.toUInt16.toUInt32).toNat = n := by
    rw [UInt16.toNat_toUInt32, UInt32.toNat_toUInt16]
    show (nI n).toBitVec.toNat % 2 ^ 16 = n
    rw [e1, Nat.mod_eq_of_lt (by omega)]
  rw [e1]
  exact e2

/-! numbers: the words that both sides are told in -/
def mxL (x y : Int64) : Int64 := if y < x then x else y
def mnL (x y : Int64) : Int64 := if y < x then y else x
def abL (x : Int64) : Int64 := if 0 < x then x else -x
def mxI (x y : Int32) : Int32 := if x < y then y else x
def mnI (x y : Int32) : Int32 := if y < x then y else x
def abI (x : Int32) : Int32 := if 0 ≤ x then x else 0 - x
/-- a quotient rounded down -/
def fd (x y : Int64) : Int64 := Int64.ofInt (x.toInt / y.toInt)
theorem ofI64 {z : Int} (h1 : -9223372036854775808 ≤ z) (h2 : z < 9223372036854775808) : (Int64.ofInt z).toInt = z := by
  rw [Int64.toInt_ofInt]; exact fb_bmodL h1 h2
theorem ediv_rng {a b : Int} (hb : 0 < b) (h1 : -9223372036854775808 ≤ a) (h2 : a < 9223372036854775808) : -9223372036854775808 ≤ a / b ∧ a / b < 9223372036854775808 := by
  constructor
  · have := Int.le_ediv_of_mul_le hb (show (-9223372036854775808) * b ≤ a by
      have : (-9223372036854775808) * b ≤ (-9223372036854775808) * 1 := Int.mul_le_mul_of_nonpos_left (by omega) (by omega)
      omega)
    exact this
  · rcases Int.lt_or_le a 0 with h | h
    · have := Int.ediv_neg_of_neg_of_pos h hb
      omega
    · have := Int.ediv_le_self b h
      omega
theorem fd_toInt {x y : Int64} (hy : 0 < y.toInt) : (fd x y).toInt = x.toInt / y.toInt := by
  have h := ediv_rng hy (fb_rngL x).1 (fb_rngL x).2
  exact ofI64 h.1 h.2
theorem tdiv_rng {a b : Int} (hb : 0 < b) (h1 : -9223372036854775808 ≤ a) (h2 : a < 9223372036854775808) : -9223372036854775808 ≤ a.tdiv b ∧ a.tdiv b < 9223372036854775808 := by
  rcases Int.lt_or_le a 0 with h | h
  · have e : a.tdiv b = -((-a) / b) := by
      rw [show a = -(-a) by omega, Int.neg_tdiv, Int.tdiv_eq_ediv_of_nonneg (by omega), Int.neg_neg]
    have h3 := Int.ediv_le_self b (show 0 ≤ -a by omega)
    have h4 := Int.ediv_nonneg (show 0 ≤ -a by omega) (show 0 ≤ b by omega)
    omega
  · rw [Int.tdiv_eq_ediv_of_nonneg h]
    exact ediv_rng hb h1 h2
theorem div_toInt {x y : Int64} (hy : 0 < y.toInt) : (x / y).toInt = x.toInt.tdiv y.toInt := by
  rw [Int64.toInt_div]
  have h := tdiv_rng hy (fb_rngL x).1 (fb_rngL x).2
  exact fb_bmodL h.1 h.2
theorem lt0 (x : Int64) : x < 0 ↔ x.toInt < 0 := by rw [Int64.lt_iff_toInt_lt]; rfl
theorem le0 (x : Int64) : 0 ≤ x ↔ 0 ≤ x.toInt := by rw [Int64.le_iff_toInt_le]; rfl
theorem ne0 {y : Int64} (hy : 0 < y.toInt) : ¬ y = 0 := by
  intro h
  rw [h] at hy
  exact absurd hy (by decide)
theorem xor_lt0 (x y : Int64) : (x ^^^ y) < 0 ↔ ¬ (x < 0 ↔ y < 0) := by
  have key : ∀ z : Int64, z < 0 ↔ z.toBitVec.msb = true := by
    intro z
    rw [lt0, BitVec.msb_eq_toInt, decide_eq_true_eq]
    rfl
  rw [key, key, key, Int64.toBitVec_xor, BitVec.msb_xor]
  cases x.toBitVec.msb <;> cases y.toBitVec.msb <;> simp
theorem tdiv_floor_nn {a b : Int} (h : 0 ≤ a) : a.tdiv b = a / b := Int.tdiv_eq_ediv_of_nonneg h
theorem tdiv_exact {a b : Int} (hb : 0 < b) (h : a.tdiv b * b = a) : a.tdiv b = a / b := by
  have h1 : a / b = (a.tdiv b * b) / b := by rw [h]
  rw [h1, Int.mul_ediv_cancel _ (by omega)]
theorem tdiv_less {a b : Int} (hb : 0 < b) (ha : a < 0) (h : ¬ a.tdiv b * b = a) : a.tdiv b - 1 = a / b := by
  have e : a.tdiv b = -((-a) / b) := by
    rw [show a = -(-a) by omega, Int.neg_tdiv, Int.tdiv_eq_ediv_of_nonneg (by omega), Int.neg_neg]
  have h1 := Int.mul_ediv_add_emod (-a) b
  have h2 := Int.emod_nonneg (-a) (show b ≠ 0 by omega)
  have h3 := Int.emod_lt_of_pos (-a) hb
  rw [e] at h ⊢
  have h4 : (-a) % b ≠ 0 := by
    intro z
    apply h
    rw [z] at h1
    rw [Int.neg_mul, Int.mul_comm]
    omega
  have h5 : (b - (-a) % b) + b * (-((-a) / b) - 1) = a := by
    rw [Int.mul_sub, Int.mul_neg, Int.mul_one]
    omega
  have h6 := ((Int.ediv_emod_unique hb).mpr ⟨h5, by omega, by omega⟩).1
  omega
/-- the machine's quotient, when nothing is to be rounded below 0 -/
theorem fd_nn {x y : Int64} (hy : 0 < y.toInt) (hx : 0 ≤ x.toInt) : x / y = fd x y := by
  rw [← Int64.toInt_inj, div_toInt hy, fd_toInt hy, tdiv_floor_nn hx]
theorem mulq_toInt {x y : Int64} (hy : 0 < y.toInt) : (x / y * y).toInt = x.toInt.tdiv y.toInt * y.toInt := by
  have hq := div_toInt (x := x) hy
  have h0 := fb_rngL x
  have h1 := Int.tdiv_mul_le x.toInt (show y.toInt ≠ 0 by omega)
  rcases Int.lt_or_le x.toInt 0 with h | h
  · have e : x.toInt.tdiv y.toInt = -((-x.toInt) / y.toInt) := by
      conv => lhs; rw [show x.toInt = -(-x.toInt) by omega, Int.neg_tdiv, Int.tdiv_eq_ediv_of_nonneg (by omega)]
    have h2 := Int.ediv_mul_le (-x.toInt) (show y.toInt ≠ 0 by omega)
    have h3 := Int.mul_nonneg (Int.ediv_nonneg (show 0 ≤ -x.toInt by omega) (show 0 ≤ y.toInt by omega)) (show 0 ≤ y.toInt by omega)
    have h4 : x.toInt.tdiv y.toInt * y.toInt = -((-x.toInt) / y.toInt * y.toInt) := by rw [e, Int.neg_mul]
    rw [fb_mulL (by rw [hq]; omega) (by rw [hq]; omega), hq]
  · have e := tdiv_floor_nn (b := y.toInt) h
    have h2 := Int.ediv_mul_le x.toInt (show y.toInt ≠ 0 by omega)
    have h3 := Int.mul_nonneg (Int.ediv_nonneg h (show 0 ≤ y.toInt by omega)) (show 0 ≤ y.toInt by omega)
    rw [fb_mulL (by rw [hq, e]; omega) (by rw [hq, e]; omega), hq]
theorem fd_ex {x y : Int64} (hy : 0 < y.toInt) (h : x / y * y = x) : x / y = fd x y := by
  have h1 := mulq_toInt (x := x) hy
  rw [h] at h1
  rw [← Int64.toInt_inj, div_toInt hy, fd_toInt hy]
  exact tdiv_exact hy h1.symm
theorem fd_lt {x y : Int64} (hy : 0 < y.toInt) (hx : x.toInt < 0) (h : ¬ x / y * y = x) : x / y - 1 = fd x y := by
  have h1 := mulq_toInt (x := x) hy
  have h2 : ¬ x.toInt.tdiv y.toInt * y.toInt = x.toInt := by
    intro z
    apply h
    rw [← Int64.toInt_inj, h1, z]
  have h3 := tdiv_less hy hx h2
  have hq := div_toInt (x := x) hy
  have h4 := ediv_rng hy (fb_rngL x).1 (fb_rngL x).2
  rw [← Int64.toInt_inj, fd_toInt hy, fb_subL (by rw [hq]; show -9223372036854775808 ≤ _ - 1; omega) (by rw [hq]; show _ - 1 < _; omega), hq]
  exact h3
theorem fdm_fl {x y : Int64} (hy : 0 < y.toInt) (h : ¬ (x ^^^ y) < 0) : x / y = fd x y := by
  refine fd_nn hy ?_
  rw [xor_lt0] at h
  have h1 : ¬ y < 0 := by rw [lt0]; omega
  have h2 : ¬ x < 0 := fun z => h fun w => h1 (w.mp z)
  rw [lt0] at h2
  omega
theorem fdm_neg {x y : Int64} (hy : 0 < y.toInt) (h : (x ^^^ y) < 0) : x.toInt < 0 := by
  rw [xor_lt0] at h
  have h1 : ¬ y < 0 := by rw [lt0]; omega
  rcases Int.lt_or_le x.toInt 0 with z | z
  · exact z
  · exfalso
    apply h
    constructor
    · intro w; rw [lt0] at w; omega
    · intro w; exact absurd w h1
/-- down: the same by the remainder -/
theorem dn_less {x y : Int64} (hy : 0 < y.toInt) (hx : x < 0) (h : ¬ x - x / y * y = 0) : x / y - 1 = fd x y :=
  fd_lt hy ((lt0 x).mp hx) (fun z => h (by rw [z, Int64.sub_self]))
theorem dn_ex {x y : Int64} (hy : 0 < y.toInt) (h : x - x / y * y = 0) : x / y = fd x y := by
  refine fd_ex hy ?_
  have h2 : x - x / y * y + x / y * y = x := Int64.sub_add_cancel ..
  rw [h, Int64.zero_add] at h2
  exact h2
theorem dn_nn {x y : Int64} (hy : 0 < y.toInt) (hx : ¬ x < 0) : x / y = fd x y := fd_nn hy (by rw [lt0] at hx; omega)
def rw3 (a b c : Nat) : Nat → Option Nat := fun k => match k with | 0 => some a | 1 => some b | 2 => some c | _ => none
def rw4 (a b c d : Nat) : Nat → Option Nat := fun k => match k with | 0 => some a | 1 => some b | 2 => some c | 3 => some d | _ => none

section QN
variable {p : Program} {l : Launch} {e : Env} {R : Room} {s : State} {m : MethodId} {args : Array Value} {below : List Frame} {meth : Method} {c : Code} {H : Heap} {locs : List Loc} {cells slots : Nat} {Q : State → Prop} {cc : ByteArray} {pc : Nat} {ls : Array Slot} {rest : List Value}
theorem q_icmp_eq_n {x y : Int32} {a b : Nat} (hx : p.tables.exec = Jvm.exec) (hb : c.code = cc) {off : Int} {tgt : Nat} (hdg : decode cc pc = .ok (.if_icmp .eq off, 3)) (ht : (pc : Int) + off = (tgt : Int)) (hxa : x = nI a) (hyb : y = nI b) (ha : a < 2 ^ 31) (hb2 : b < 2 ^ 31) (kt : a = b → W p l e R s m args below meth c H locs cells slots Q (F0 m tgt ls rest)) (kf : ¬ a = b → W p l e R s m args below meth c H locs cells slots Q (F0 m (pc + 3) ls rest)) : W p l e R s m args below meth c H locs cells slots Q (F0 m pc ls (.int y :: .int x :: rest)) := by
  subst hxa; subst hyb
  exact lv_icmp_eq hx hb hdg ht (fun h => kt ((nI_eq ha hb2).mp h)) (fun h => kf fun z => h ((nI_eq ha hb2).mpr z))
theorem q_if_eq_n {x : Int32} {a : Nat} (hx : p.tables.exec = Jvm.exec) (hb : c.code = cc) {off : Int} {tgt : Nat} (hdg : decode cc pc = .ok (.ifCond .eq off, 3)) (ht : (pc : Int) + off = (tgt : Int)) (hxa : x = nI a) (ha : a < 2 ^ 31) (kt : a = 0 → W p l e R s m args below meth c H locs cells slots Q (F0 m tgt ls rest)) (kf : ¬ a = 0 → W p l e R s m args below meth c H locs cells slots Q (F0 m (pc + 3) ls rest)) : W p l e R s m args below meth c H locs cells slots Q (F0 m pc ls (.int x :: rest)) := by
  subst hxa
  exact lv_if_eq hx hb hdg ht (fun h => kt ((nI_eq ha (show 0 < 2 ^ 31 by decide)).mp h)) (fun h => kf fun z => h ((nI_eq ha (show 0 < 2 ^ 31 by decide)).mpr z))
theorem q_icmp_ne_n {x y : Int32} {a b : Nat} (hx : p.tables.exec = Jvm.exec) (hb : c.code = cc) {off : Int} {tgt : Nat} (hdg : decode cc pc = .ok (.if_icmp .ne off, 3)) (ht : (pc : Int) + off = (tgt : Int)) (hxa : x = nI a) (hyb : y = nI b) (ha : a < 2 ^ 31) (hb2 : b < 2 ^ 31) (kt : ¬ a = b → W p l e R s m args below meth c H locs cells slots Q (F0 m tgt ls rest)) (kf : a = b → W p l e R s m args below meth c H locs cells slots Q (F0 m (pc + 3) ls rest)) : W p l e R s m args below meth c H locs cells slots Q (F0 m pc ls (.int y :: .int x :: rest)) := by
  subst hxa; subst hyb
  exact lv_icmp_ne hx hb hdg ht (fun h => kt fun z => h ((nI_eq ha hb2).mpr z)) (fun h => kf ((nI_eq ha hb2).mp h))
theorem q_if_ne_n {x : Int32} {a : Nat} (hx : p.tables.exec = Jvm.exec) (hb : c.code = cc) {off : Int} {tgt : Nat} (hdg : decode cc pc = .ok (.ifCond .ne off, 3)) (ht : (pc : Int) + off = (tgt : Int)) (hxa : x = nI a) (ha : a < 2 ^ 31) (kt : ¬ a = 0 → W p l e R s m args below meth c H locs cells slots Q (F0 m tgt ls rest)) (kf : a = 0 → W p l e R s m args below meth c H locs cells slots Q (F0 m (pc + 3) ls rest)) : W p l e R s m args below meth c H locs cells slots Q (F0 m pc ls (.int x :: rest)) := by
  subst hxa
  exact lv_if_ne hx hb hdg ht (fun h => kt fun z => h ((nI_eq ha (show 0 < 2 ^ 31 by decide)).mpr z)) (fun h => kf ((nI_eq ha (show 0 < 2 ^ 31 by decide)).mp h))
theorem q_icmp_lt_n {x y : Int32} {a b : Nat} (hx : p.tables.exec = Jvm.exec) (hb : c.code = cc) {off : Int} {tgt : Nat} (hdg : decode cc pc = .ok (.if_icmp .lt off, 3)) (ht : (pc : Int) + off = (tgt : Int)) (hxa : x = nI a) (hyb : y = nI b) (ha : a < 2 ^ 31) (hb2 : b < 2 ^ 31) (kt : a < b → W p l e R s m args below meth c H locs cells slots Q (F0 m tgt ls rest)) (kf : b ≤ a → W p l e R s m args below meth c H locs cells slots Q (F0 m (pc + 3) ls rest)) : W p l e R s m args below meth c H locs cells slots Q (F0 m pc ls (.int y :: .int x :: rest)) := by
  subst hxa; subst hyb
  exact lv_icmp_lt hx hb hdg ht (fun h => kt ((nI_ltI ha hb2).mp h)) (fun h => kf (Nat.not_lt.mp fun z => h ((nI_ltI ha hb2).mpr z)))
theorem q_if_lt_n {x : Int32} {a : Nat} (hx : p.tables.exec = Jvm.exec) (hb : c.code = cc) {off : Int} {tgt : Nat} (hdg : decode cc pc = .ok (.ifCond .lt off, 3)) (ht : (pc : Int) + off = (tgt : Int)) (hxa : x = nI a) (ha : a < 2 ^ 31) (kt : a < 0 → W p l e R s m args below meth c H locs cells slots Q (F0 m tgt ls rest)) (kf : 0 ≤ a → W p l e R s m args below meth c H locs cells slots Q (F0 m (pc + 3) ls rest)) : W p l e R s m args below meth c H locs cells slots Q (F0 m pc ls (.int x :: rest)) := by
  subst hxa
  exact lv_if_lt hx hb hdg ht (fun h => kt ((nI_ltI ha (show 0 < 2 ^ 31 by decide)).mp h)) (fun h => kf (Nat.not_lt.mp fun z => h ((nI_ltI ha (show 0 < 2 ^ 31 by decide)).mpr z)))
theorem q_icmp_ge_n {x y : Int32} {a b : Nat} (hx : p.tables.exec = Jvm.exec) (hb : c.code = cc) {off : Int} {tgt : Nat} (hdg : decode cc pc = .ok (.if_icmp .ge off, 3)) (ht : (pc : Int) + off = (tgt : Int)) (hxa : x = nI a) (hyb : y = nI b) (ha : a < 2 ^ 31) (hb2 : b < 2 ^ 31) (kt : b ≤ a → W p l e R s m args below meth c H locs cells slots Q (F0 m tgt ls rest)) (kf : a < b → W p l e R s m args below meth c H locs cells slots Q (F0 m (pc + 3) ls rest)) : W p l e R s m args below meth c H locs cells slots Q (F0 m pc ls (.int y :: .int x :: rest)) := by
  subst hxa; subst hyb
  exact lv_icmp_ge hx hb hdg ht (fun h => kt ((nI_leI hb2 ha).mp h)) (fun h => kf (Nat.not_le.mp fun z => h ((nI_leI hb2 ha).mpr z)))
theorem q_if_ge_n {x : Int32} {a : Nat} (hx : p.tables.exec = Jvm.exec) (hb : c.code = cc) {off : Int} {tgt : Nat} (hdg : decode cc pc = .ok (.ifCond .ge off, 3)) (ht : (pc : Int) + off = (tgt : Int)) (hxa : x = nI a) (ha : a < 2 ^ 31) (kt : 0 ≤ a → W p l e R s m args below meth c H locs cells slots Q (F0 m tgt ls rest)) (kf : a < 0 → W p l e R s m args below meth c H locs cells slots Q (F0 m (pc + 3) ls rest)) : W p l e R s m args below meth c H locs cells slots Q (F0 m pc ls (.int x :: rest)) := by
  subst hxa
  exact lv_if_ge hx hb hdg ht (fun h => kt ((nI_leI (show 0 < 2 ^ 31 by decide) ha).mp h)) (fun h => kf (Nat.not_le.mp fun z => h ((nI_leI (show 0 < 2 ^ 31 by decide) ha).mpr z)))
theorem q_icmp_gt_n {x y : Int32} {a b : Nat} (hx : p.tables.exec = Jvm.exec) (hb : c.code = cc) {off : Int} {tgt : Nat} (hdg : decode cc pc = .ok (.if_icmp .gt off, 3)) (ht : (pc : Int) + off = (tgt : Int)) (hxa : x = nI a) (hyb : y = nI b) (ha : a < 2 ^ 31) (hb2 : b < 2 ^ 31) (kt : b < a → W p l e R s m args below meth c H locs cells slots Q (F0 m tgt ls rest)) (kf : a ≤ b → W p l e R s m args below meth c H locs cells slots Q (F0 m (pc + 3) ls rest)) : W p l e R s m args below meth c H locs cells slots Q (F0 m pc ls (.int y :: .int x :: rest)) := by
  subst hxa; subst hyb
  exact lv_icmp_gt hx hb hdg ht (fun h => kt ((nI_ltI hb2 ha).mp h)) (fun h => kf (Nat.not_lt.mp fun z => h ((nI_ltI hb2 ha).mpr z)))
theorem q_if_gt_n {x : Int32} {a : Nat} (hx : p.tables.exec = Jvm.exec) (hb : c.code = cc) {off : Int} {tgt : Nat} (hdg : decode cc pc = .ok (.ifCond .gt off, 3)) (ht : (pc : Int) + off = (tgt : Int)) (hxa : x = nI a) (ha : a < 2 ^ 31) (kt : 0 < a → W p l e R s m args below meth c H locs cells slots Q (F0 m tgt ls rest)) (kf : a ≤ 0 → W p l e R s m args below meth c H locs cells slots Q (F0 m (pc + 3) ls rest)) : W p l e R s m args below meth c H locs cells slots Q (F0 m pc ls (.int x :: rest)) := by
  subst hxa
  exact lv_if_gt hx hb hdg ht (fun h => kt ((nI_ltI (show 0 < 2 ^ 31 by decide) ha).mp h)) (fun h => kf (Nat.not_lt.mp fun z => h ((nI_ltI (show 0 < 2 ^ 31 by decide) ha).mpr z)))
theorem q_icmp_le_n {x y : Int32} {a b : Nat} (hx : p.tables.exec = Jvm.exec) (hb : c.code = cc) {off : Int} {tgt : Nat} (hdg : decode cc pc = .ok (.if_icmp .le off, 3)) (ht : (pc : Int) + off = (tgt : Int)) (hxa : x = nI a) (hyb : y = nI b) (ha : a < 2 ^ 31) (hb2 : b < 2 ^ 31) (kt : a ≤ b → W p l e R s m args below meth c H locs cells slots Q (F0 m tgt ls rest)) (kf : b < a → W p l e R s m args below meth c H locs cells slots Q (F0 m (pc + 3) ls rest)) : W p l e R s m args below meth c H locs cells slots Q (F0 m pc ls (.int y :: .int x :: rest)) := by
  subst hxa; subst hyb
  exact lv_icmp_le hx hb hdg ht (fun h => kt ((nI_leI ha hb2).mp h)) (fun h => kf (Nat.not_le.mp fun z => h ((nI_leI ha hb2).mpr z)))
theorem q_if_le_n {x : Int32} {a : Nat} (hx : p.tables.exec = Jvm.exec) (hb : c.code = cc) {off : Int} {tgt : Nat} (hdg : decode cc pc = .ok (.ifCond .le off, 3)) (ht : (pc : Int) + off = (tgt : Int)) (hxa : x = nI a) (ha : a < 2 ^ 31) (kt : a ≤ 0 → W p l e R s m args below meth c H locs cells slots Q (F0 m tgt ls rest)) (kf : 0 < a → W p l e R s m args below meth c H locs cells slots Q (F0 m (pc + 3) ls rest)) : W p l e R s m args below meth c H locs cells slots Q (F0 m pc ls (.int x :: rest)) := by
  subst hxa
  exact lv_if_le hx hb hdg ht (fun h => kt ((nI_leI ha (show 0 < 2 ^ 31 by decide)).mp h)) (fun h => kf (Nat.not_le.mp fun z => h ((nI_leI ha (show 0 < 2 ^ 31 by decide)).mpr z)))
end QN
theorem nw_27 : Jvm.Cond.methodLinkNest "ShockTube" 9 y_State_init "ShockTube" ∈ nestw := List.mem_of_getElem? (i := 0) rfl
theorem nw_39 : Jvm.Cond.methodLinkNest "ShockTube$Tube" 11 y_Laws_init "ShockTube" ∈ nestw := List.mem_of_getElem? (i := 1) rfl
theorem nw_123 : Jvm.Cond.methodLinkNest "ShockTube$State" 18 y_Story_init "ShockTube" ∈ nestw := List.mem_of_getElem? (i := 2) rfl
theorem nw_145 : Jvm.Cond.methodLinkNest "ShockTube$State" 25 y_Row_init "ShockTube" ∈ nestw := List.mem_of_getElem? (i := 3) rfl
theorem nw_171 : Jvm.Cond.methodLinkNest "ShockTube$State" 32 y_Pipe_init "ShockTube" ∈ nestw := List.mem_of_getElem? (i := 4) rfl
theorem nw_239 : Jvm.Cond.methodLinkNest "ShockTube" 18 y_Step_init "ShockTube" ∈ nestw := List.mem_of_getElem? (i := 5) rfl
theorem nw_372 : Jvm.Cond.methodLinkNest "ShockTube$Tube" 91 y_X_copyRow_1 "ShockTube" ∈ nestw := List.mem_of_getElem? (i := 6) rfl
theorem nw_381 : Jvm.Cond.methodLinkNest "ShockTube$Tube" 95 y_X_copyRow_0 "ShockTube" ∈ nestw := List.mem_of_getElem? (i := 7) rfl
theorem nw_476 : Jvm.Cond.fieldLinkNest "ShockTube$Laws" 41 "ShockTube" "PRESSURE_TIMES" "[I" "ShockTube" ∈ nestw := List.mem_of_getElem? (i := 8) rfl
theorem nw_478 : Jvm.Cond.fieldLinkNest "ShockTube$Laws" 45 "ShockTube" "PRESSURE_PARTS" "[I" "ShockTube" ∈ nestw := List.mem_of_getElem? (i := 9) rfl
theorem nw_488 : Jvm.Cond.fieldLinkNest "ShockTube$Laws" 48 "ShockTube" "SOUND_TIMES" "[I" "ShockTube" ∈ nestw := List.mem_of_getElem? (i := 10) rfl
theorem nw_491 : Jvm.Cond.fieldLinkNest "ShockTube$Laws" 53 "ShockTube" "SOUND_PARTS" "[I" "ShockTube" ∈ nestw := List.mem_of_getElem? (i := 11) rfl
theorem nw_579 : Jvm.Cond.methodLinkNest "ShockTube$Step" 165 y_X_copyRow_1 "ShockTube" ∈ nestw := List.mem_of_getElem? (i := 12) rfl
theorem nw_786 : Jvm.Cond.methodLinkNest "ShockTube$Pipe" 103 y_X_copyRow_1 "ShockTube" ∈ nestw := List.mem_of_getElem? (i := 13) rfl
theorem nw_819 : Jvm.Cond.methodLinkNest "ShockTube$Row" 85 y_X_copyRow_0 "ShockTube" ∈ nestw := List.mem_of_getElem? (i := 14) rfl
theorem K_X_init : kI y_X_init b_X_init 1 0 := ⟨x_21, x_1, ⟨x_20, rfl⟩, by unfold kD; decide +kernel⟩
theorem K_X_shape : kV y_X_shape b_X_shape 4 none 3 := ⟨x_283, x_1, ⟨x_281, x_282⟩, by unfold kD; decide +kernel⟩
theorem K_X_gas : kV y_X_gas b_X_gas 2 none 1 := ⟨x_387, x_1, ⟨x_385, x_386⟩, by unfold kD; decide +kernel⟩
theorem K_X_cell : kV y_X_cell b_X_cell 6 none 5 := ⟨x_396, x_1, ⟨x_394, x_395⟩, by unfold kD; decide +kernel⟩
theorem K_X_ignition : kV y_X_ignition b_X_ignition 4 none 3 := ⟨x_449, x_1, ⟨x_447, x_448⟩, by unfold kD; decide +kernel⟩
theorem K_X_step : kV y_X_step b_X_step 4 (some .int) 2 := ⟨x_456, x_1, ⟨x_454, x_455⟩, by unfold kD; decide +kernel⟩
theorem K_X_tube : kV y_X_tube b_X_tube 3 (some .int) 2 := ⟨x_587, x_1, ⟨x_585, x_586⟩, by unfold kD; decide +kernel⟩
theorem K_X_anew : kV y_X_anew b_X_anew 3 (some .int) 2 := ⟨x_608, x_1, ⟨x_606, x_607⟩, by unfold kD; decide +kernel⟩
theorem K_X_isKept : kV y_X_isKept b_X_isKept 2 (some .boolean) 1 := ⟨x_623, x_1, ⟨x_621, x_622⟩, by unfold kD; decide +kernel⟩
theorem K_X_steps : kV y_X_steps b_X_steps 1 (some .int) 0 := ⟨x_631, x_1, ⟨x_629, x_630⟩, by unfold kD; decide +kernel⟩
theorem K_X_front : kV y_X_front b_X_front 6 (some .int) 4 := ⟨x_635, x_1, ⟨x_633, x_634⟩, by unfold kD; decide +kernel⟩
theorem K_X_tick : kV y_X_tick b_X_tick 3 (some .int) 1 := ⟨x_653, x_1, ⟨x_651, x_652⟩, by unfold kD; decide +kernel⟩
theorem K_X_fronts : kV y_X_fronts b_X_fronts 1 (some .int) 0 := ⟨x_715, x_1, ⟨x_713, x_714⟩, by unfold kD; decide +kernel⟩
theorem K_X_pipe : kV y_X_pipe b_X_pipe 7 none 6 := ⟨x_719, x_1, ⟨x_717, x_718⟩, by unfold kD; decide +kernel⟩
theorem K_X_valve : kV y_X_valve b_X_valve 3 (some .int) 1 := ⟨x_728, x_1, ⟨x_726, x_727⟩, by unfold kD; decide +kernel⟩
theorem K_X_flow : kV y_X_flow b_X_flow 3 (some .int) 1 := ⟨x_738, x_1, ⟨x_736, x_737⟩, by unfold kD; decide +kernel⟩
theorem K_X_node : kV y_X_node b_X_node 3 (some .int) 2 := ⟨x_791, x_1, ⟨x_789, x_790⟩, by unfold kD; decide +kernel⟩
theorem K_X_keep : kV y_X_keep b_X_keep 3 none 1 := ⟨x_800, x_1, ⟨x_798, x_799⟩, by unfold kD; decide +kernel⟩
theorem K_X_goBack : kV y_X_goBack b_X_goBack 3 none 1 := ⟨x_827, x_1, ⟨x_825, x_826⟩, by unfold kD; decide +kernel⟩
theorem K_X_refuseCell : kV y_X_refuseCell b_X_refuseCell 2 none 1 := ⟨x_400, x_1, ⟨x_399, s_X_refuseCell⟩, by unfold kD; decide +kernel⟩
theorem K_X_refuseWhat : kS y_X_refuseWhat b_X_refuseWhat 2 none 2 := ⟨x_590, x_1, x_589, by unfold kD; decide +kernel⟩
theorem K_X_refuseTicks : kS y_X_refuseTicks b_X_refuseTicks 1 none 1 := ⟨x_656, x_1, x_655, by unfold kD; decide +kernel⟩
theorem K_X_refuseNoPipe : kV y_X_refuseNoPipe b_X_refuseNoPipe 1 none 0 := ⟨x_733, x_1, ⟨x_732, s_X_refuseNoPipe⟩, by unfold kD; decide +kernel⟩
theorem K_X_refuseSlot : kS y_X_refuseSlot b_X_refuseSlot 1 none 1 := ⟨x_803, x_1, x_802, by unfold kD; decide +kernel⟩
theorem K_X_isFrom : kS y_X_isFrom b_X_isFrom 3 (some .boolean) 3 := ⟨x_286, x_1, x_285, by unfold kD; decide +kernel⟩
theorem K_X_toInt : kS y_X_toInt b_X_toInt 2 (some .int) 1 := ⟨x_602, x_1, x_601, by unfold kD; decide +kernel⟩
theorem K_X_copyRow_1 : kS y_X_copyRow_1 b_X_copyRow_1 2 none 2 := ⟨x_374, x_1, x_373, by unfold kD; decide +kernel⟩
theorem K_X_copyRow_0 : kS y_X_copyRow_0 b_X_copyRow_0 2 none 2 := ⟨x_383, x_1, x_382, by unfold kD; decide +kernel⟩
theorem K_Laws_init : kI y_Laws_init b_Laws_init 1 0 := ⟨x_41, x_4, ⟨x_40, rfl⟩, by unfold kD; decide +kernel⟩
theorem K_Laws_ignite : kV y_Laws_ignite b_Laws_ignite 4 none 3 := ⟨x_371, x_4, ⟨x_369, x_370⟩, by unfold kD; decide +kernel⟩
theorem K_Laws_copyFrom : kV y_Laws_copyFrom b_Laws_copyFrom 2 none 1 := ⟨x_367, x_4, ⟨x_365, x_366⟩, by unfold kD; decide +kernel⟩
theorem K_Laws_within : kS y_Laws_within b_Laws_within 6 (some .long) 3 := ⟨x_424, x_4, x_423, by unfold kD; decide +kernel⟩
theorem K_Laws_speed : kS y_Laws_speed b_Laws_speed 4 (some .long) 2 := ⟨x_482, x_4, x_481, by unfold kD; decide +kernel⟩
theorem K_Laws_temperature : kS y_Laws_temperature b_Laws_temperature 4 (some .long) 2 := ⟨x_573, x_4, x_572, by unfold kD; decide +kernel⟩
theorem K_Laws_pressure : kV y_Laws_pressure b_Laws_pressure 3 (some .long) 1 := ⟨x_475, x_4, ⟨x_473, x_474⟩, by unfold kD; decide +kernel⟩
theorem K_Laws_sound : kV y_Laws_sound b_Laws_sound 7 (some .long) 2 := ⟨x_487, x_4, ⟨x_485, x_486⟩, by unfold kD; decide +kernel⟩
theorem K_Laws_root : kS y_Laws_root b_Laws_root 8 (some .long) 1 := ⟨x_495, x_4, x_494, by unfold kD; decide +kernel⟩
theorem K_Laws_burns : kV y_Laws_burns b_Laws_burns 7 (some .long) 3 := ⟨x_570, x_4, ⟨x_568, x_569⟩, by unfold kD; decide +kernel⟩
theorem K_Pipe_init : kI y_Pipe_init b_Pipe_init 1 0 := ⟨x_173, x_7, ⟨x_172, rfl⟩, by unfold kD; decide +kernel⟩
theorem K_Pipe_begin : kV y_Pipe_begin b_Pipe_begin 5 none 3 := ⟨x_724, x_7, ⟨x_722, x_723⟩, by unfold kD; decide +kernel⟩
theorem K_Pipe_isTicked : kV y_Pipe_isTicked b_Pipe_isTicked 2 (some .boolean) 0 := ⟨x_742, x_7, ⟨x_740, x_741⟩, by unfold kD; decide +kernel⟩
theorem K_Pipe_fromLeft : kV y_Pipe_fromLeft b_Pipe_fromLeft 3 (some .long) 1 := ⟨x_764, x_7, ⟨x_762, x_763⟩, by unfold kD; decide +kernel⟩
theorem K_Pipe_fromRight : kV y_Pipe_fromRight b_Pipe_fromRight 3 (some .long) 1 := ⟨x_750, x_7, ⟨x_748, x_749⟩, by unfold kD; decide +kernel⟩
theorem K_Pipe_rubbed : kV y_Pipe_rubbed b_Pipe_rubbed 2 (some .long) 1 := ⟨x_754, x_7, ⟨x_752, x_753⟩, by unfold kD; decide +kernel⟩
theorem K_Pipe_findReservoir : kV y_Pipe_findReservoir b_Pipe_findReservoir 1 none 0 := ⟨x_746, x_7, ⟨x_744, x_745⟩, by unfold kD; decide +kernel⟩
theorem K_Pipe_findBetween : kV y_Pipe_findBetween b_Pipe_findBetween 6 none 1 := ⟨x_760, x_7, ⟨x_758, x_759⟩, by unfold kD; decide +kernel⟩
theorem K_Pipe_findValve : kV y_Pipe_findValve b_Pipe_findValve 4 none 0 := ⟨x_775, x_7, ⟨x_773, x_774⟩, by unfold kD; decide +kernel⟩
theorem K_Pipe_findCavity : kV y_Pipe_findCavity b_Pipe_findCavity 10 none 3 := ⟨x_771, x_7, ⟨x_769, x_770⟩, by unfold kD; decide +kernel⟩
theorem K_Pipe_isAllowed : kV y_Pipe_isAllowed b_Pipe_isAllowed 2 (some .boolean) 1 := ⟨x_779, x_7, ⟨x_777, x_778⟩, by unfold kD; decide +kernel⟩
theorem K_Pipe_take : kV y_Pipe_take b_Pipe_take 2 none 0 := ⟨x_785, x_7, ⟨x_783, x_784⟩, by unfold kD; decide +kernel⟩
theorem K_Pipe_tells : kV y_Pipe_tells b_Pipe_tells 3 (some .long) 2 := ⟨x_796, x_7, ⟨x_794, x_795⟩, by unfold kD; decide +kernel⟩
theorem K_Pipe_copyFrom : kV y_Pipe_copyFrom b_Pipe_copyFrom 2 none 1 := ⟨x_823, x_7, ⟨x_821, x_822⟩, by unfold kD; decide +kernel⟩
theorem K_Row_init : kI y_Row_init b_Row_init 1 0 := ⟨x_147, x_6, ⟨x_146, rfl⟩, by unfold kD; decide +kernel⟩
theorem K_Row_placeFor : kV y_Row_placeFor b_Row_placeFor 4 (some .int) 1 := ⟨x_641, x_6, ⟨x_639, x_640⟩, by unfold kD; decide +kernel⟩
theorem K_Row_putIn : kV y_Row_putIn b_Row_putIn 7 none 5 := ⟨x_645, x_6, ⟨x_643, x_644⟩, by unfold kD; decide +kernel⟩
theorem K_Row_takeOut : kV y_Row_takeOut b_Row_takeOut 3 none 1 := ⟨x_696, x_6, ⟨x_694, x_695⟩, by unfold kD; decide +kernel⟩
theorem K_Row_copyFront : kV y_Row_copyFront b_Row_copyFront 3 none 2 := ⟨x_649, x_6, ⟨x_647, x_648⟩, by unfold kD; decide +kernel⟩
theorem K_Row_move : kV y_Row_move b_Row_move 5 none 0 := ⟨x_661, x_6, ⟨x_659, x_660⟩, by unfold kD; decide +kernel⟩
theorem K_Row_turn : kV y_Row_turn b_Row_turn 2 none 1 := ⟨x_668, x_6, ⟨x_666, x_667⟩, by unfold kD; decide +kernel⟩
theorem K_Row_meetAll : kV y_Row_meetAll b_Row_meetAll 3 none 0 := ⟨x_672, x_6, ⟨x_670, x_671⟩, by unfold kD; decide +kernel⟩
theorem K_Row_isMeeting : kV y_Row_isMeeting b_Row_isMeeting 2 (some .boolean) 1 := ⟨x_676, x_6, ⟨x_674, x_675⟩, by unfold kD; decide +kernel⟩
theorem K_Row_meet : kV y_Row_meet b_Row_meet 4 (some .int) 1 := ⟨x_680, x_6, ⟨x_678, x_679⟩, by unfold kD; decide +kernel⟩
theorem K_Row_setPlace : kV y_Row_setPlace b_Row_setPlace 3 none 2 := ⟨x_684, x_6, ⟨x_682, x_683⟩, by unfold kD; decide +kernel⟩
theorem K_Row_meetShocks : kV y_Row_meetShocks b_Row_meetShocks 5 (some .int) 1 := ⟨x_688, x_6, ⟨x_686, x_687⟩, by unfold kD; decide +kernel⟩
theorem K_Row_merge : kV y_Row_merge b_Row_merge 4 none 1 := ⟨x_692, x_6, ⟨x_690, x_691⟩, by unfold kD; decide +kernel⟩
theorem K_Row_goThroughOther : kV y_Row_goThroughOther b_Row_goThroughOther 4 (some .int) 1 := ⟨x_708, x_6, ⟨x_706, x_707⟩, by unfold kD; decide +kernel⟩
theorem K_Row_held : kS y_Row_held b_Row_held 1 (some .int) 1 := ⟨x_711, x_6, x_710, by unfold kD; decide +kernel⟩
theorem K_Row_changePlaces : kV y_Row_changePlaces b_Row_changePlaces 6 none 1 := ⟨x_700, x_6, ⟨x_698, x_699⟩, by unfold kD; decide +kernel⟩
theorem K_Row_copyFrom : kV y_Row_copyFrom b_Row_copyFrom 2 none 1 := ⟨x_818, x_6, ⟨x_816, x_817⟩, by unfold kD; decide +kernel⟩
theorem K_State_init : kI y_State_init b_State_init 1 0 := ⟨x_29, x_2, ⟨x_28, rfl⟩, by unfold kD; decide +kernel⟩
theorem K_State_copyFrom : kV y_State_copyFrom b_State_copyFrom 2 none 1 := ⟨x_808, x_2, ⟨x_806, x_807⟩, by unfold kD; decide +kernel⟩
theorem K_Step_init : kI y_Step_init b_Step_init 1 0 := ⟨x_241, x_8, ⟨x_240, rfl⟩, by unfold kD; decide +kernel⟩
theorem K_Step_isDone : kV y_Step_isDone b_Step_isDone 4 (some .boolean) 2 := ⟨x_462, x_8, ⟨x_460, x_461⟩, by unfold kD; decide +kernel⟩
theorem K_Step_lookAtCells : kV y_Step_lookAtCells b_Step_lookAtCells 9 none 1 := ⟨x_466, x_8, ⟨x_464, x_465⟩, by unfold kD; decide +kernel⟩
theorem K_Step_isSlowEnough : kV y_Step_isSlowEnough b_Step_isSlowEnough 5 (some .boolean) 2 := ⟨x_501, x_8, ⟨x_499, x_500⟩, by unfold kD; decide +kernel⟩
theorem K_Step_paceAt : kV y_Step_paceAt b_Step_paceAt 9 (some .long) 2 := ⟨x_505, x_8, ⟨x_503, x_504⟩, by unfold kD; decide +kernel⟩
theorem K_Step_leftOf : kS y_Step_leftOf b_Step_leftOf 1 (some .int) 1 := ⟨x_508, x_8, x_507, by unfold kD; decide +kernel⟩
theorem K_Step_rightOf : kS y_Step_rightOf b_Step_rightOf 2 (some .int) 2 := ⟨x_514, x_8, x_513, by unfold kD; decide +kernel⟩
theorem K_Step_findBorder : kV y_Step_findBorder b_Step_findBorder 11 none 3 := ⟨x_530, x_8, ⟨x_528, x_529⟩, by unfold kD; decide +kernel⟩
theorem K_Step_findWall : kV y_Step_findWall b_Step_findWall 7 none 3 := ⟨x_534, x_8, ⟨x_532, x_533⟩, by unfold kD; decide +kernel⟩
theorem K_Step_goes : kV y_Step_goes b_Step_goes 7 (some .long) 4 := ⟨x_539, x_8, ⟨x_537, x_538⟩, by unfold kD; decide +kernel⟩
theorem K_Step_fuelGoes : kS y_Step_fuelGoes b_Step_fuelGoes 5 (some .long) 4 := ⟨x_544, x_8, x_543, by unfold kD; decide +kernel⟩
theorem K_Step_fuelWith : kS y_Step_fuelWith b_Step_fuelWith 6 (some .long) 3 := ⟨x_547, x_8, x_546, by unfold kD; decide +kernel⟩
theorem K_Step_isFound : kV y_Step_isFound b_Step_isFound 7 (some .boolean) 2 := ⟨x_554, x_8, ⟨x_552, x_553⟩, by unfold kD; decide +kernel⟩
theorem K_Step_isAllowed : kV y_Step_isAllowed b_Step_isAllowed 8 (some .boolean) 1 := ⟨x_558, x_8, ⟨x_556, x_557⟩, by unfold kD; decide +kernel⟩
theorem K_Step_pressureNext : kV y_Step_pressureNext b_Step_pressureNext 3 (some .long) 2 := ⟨x_565, x_8, ⟨x_563, x_564⟩, by unfold kD; decide +kernel⟩
theorem K_Step_take : kV y_Step_take b_Step_take 3 none 1 := ⟨x_578, x_8, ⟨x_576, x_577⟩, by unfold kD; decide +kernel⟩
theorem K_Story_init : kI y_Story_init b_Story_init 1 0 := ⟨x_125, x_5, ⟨x_124, rfl⟩, by unfold kD; decide +kernel⟩
theorem K_Story_begin : kV y_Story_begin b_Story_begin 2 none 1 := ⟨x_359, x_5, ⟨x_357, x_358⟩, by unfold kD; decide +kernel⟩
theorem K_Story_note : kV y_Story_note b_Story_note 8 none 6 := ⟨x_392, x_5, ⟨x_390, x_391⟩, by unfold kD; decide +kernel⟩
theorem K_Story_goOn : kV y_Story_goOn b_Story_goOn 2 none 1 := ⟨x_612, x_5, ⟨x_610, x_611⟩, by unfold kD; decide +kernel⟩
theorem K_Story_goThrough : kV y_Story_goThrough b_Story_goThrough 7 none 2 := ⟨x_616, x_5, ⟨x_614, x_615⟩, by unfold kD; decide +kernel⟩
theorem K_Story_copyFrom : kV y_Story_copyFrom b_Story_copyFrom 2 none 1 := ⟨x_813, x_5, ⟨x_811, x_812⟩, by unfold kD; decide +kernel⟩
theorem K_Tube_init : kI y_Tube_init b_Tube_init 1 0 := ⟨x_35, x_3, ⟨x_34, rfl⟩, by unfold kD; decide +kernel⟩
theorem K_Tube_begin : kV y_Tube_begin b_Tube_begin 5 none 3 := ⟨x_65, x_3, ⟨x_63, x_64⟩, by unfold kD; decide +kernel⟩
theorem K_Tube_clear : kV y_Tube_clear b_Tube_clear 3 none 1 := ⟨x_69, x_3, ⟨x_67, x_68⟩, by unfold kD; decide +kernel⟩
theorem K_Tube_tell : kV y_Tube_tell b_Tube_tell 6 none 5 := ⟨x_73, x_3, ⟨x_71, x_72⟩, by unfold kD; decide +kernel⟩
theorem K_Tube_tellPart : kV y_Tube_tellPart b_Tube_tellPart 5 none 3 := ⟨x_77, x_3, ⟨x_75, x_76⟩, by unfold kD; decide +kernel⟩
theorem K_Tube_isWall : kV y_Tube_isWall b_Tube_isWall 2 (some .boolean) 1 := ⟨x_522, x_3, ⟨x_520, x_521⟩, by unfold kD; decide +kernel⟩
theorem K_Tube_pressure : kV y_Tube_pressure b_Tube_pressure 2 (some .long) 1 := ⟨x_470, x_3, ⟨x_468, x_469⟩, by unfold kD; decide +kernel⟩
theorem K_Tube_tells : kV y_Tube_tells b_Tube_tells 5 (some .long) 2 := ⟨x_595, x_3, ⟨x_593, x_594⟩, by unfold kD; decide +kernel⟩
theorem K_Tube_isBalanced : kV y_Tube_isBalanced b_Tube_isBalanced 6 (some .boolean) 1 := ⟨x_627, x_3, ⟨x_625, x_626⟩, by unfold kD; decide +kernel⟩
theorem K_Tube_noteProbe : kV y_Tube_noteProbe b_Tube_noteProbe 4 none 2 := ⟨x_583, x_3, ⟨x_581, x_582⟩, by unfold kD; decide +kernel⟩
theorem K_Tube_copyFrom : kV y_Tube_copyFrom b_Tube_copyFrom 3 none 1 := ⟨x_363, x_3, ⟨x_361, x_362⟩, by unfold kD; decide +kernel⟩
theorem K_L_cell : kS y_L_cell b_L_cell 2 (some .int) 2 := ⟨x_831, x_0, x_830, by unfold kD; decide +kernel⟩
theorem K_L_low : kS y_L_low b_L_low 2 (some .int) 2 := ⟨x_834, x_0, x_833, by unfold kD; decide +kernel⟩
theorem K_Math_abs_0 : kS y_Math_abs_0 b_Math_abs_0 1 (some .int) 1 := ⟨x_703, x_13, x_702, by unfold kD; decide +kernel⟩
theorem K_Math_abs_1 : kS y_Math_abs_1 b_Math_abs_1 2 (some .long) 1 := ⟨x_518, x_13, x_517, by unfold kD; decide +kernel⟩
theorem K_Math_floorDiv : kS y_Math_floorDiv b_Math_floorDiv 6 (some .long) 2 := ⟨x_428, x_13, x_427, by unfold kD; decide +kernel⟩
theorem K_Math_max_0 : kS y_Math_max_0 b_Math_max_0 2 (some .int) 2 := ⟨x_511, x_13, x_510, by unfold kD; decide +kernel⟩
theorem K_Math_max_1 : kS y_Math_max_1 b_Math_max_1 4 (some .long) 2 := ⟨x_525, x_13, x_524, by unfold kD; decide +kernel⟩
theorem K_Math_min_0 : kS y_Math_min_0 b_Math_min_0 2 (some .int) 2 := ⟨x_377, x_13, x_376, by unfold kD; decide +kernel⟩
theorem K_Math_min_1 : kS y_Math_min_1 b_Math_min_1 4 (some .long) 2 := ⟨x_550, x_13, x_549, by unfold kD; decide +kernel⟩
