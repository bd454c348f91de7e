noncomputable section
-- ===== the tokens of a text, as functions of its bytes =====
/-- the first place from p on, m at most further, that holds no blank -/
def skp (B : Nat → Int) : Nat → Nat → Nat
  | 0, p => p
  | m + 1, p => if B p = 32 ∨ B p = 10 then skp B m (p + 1) else p
/-- small letters and digits -/
abbrev ltc (c : Int) : Prop := 97 ≤ c ∧ c ≤ 122
abbrev dgc (c : Int) : Prop := 48 ≤ c ∧ c ≤ 57
abbrev sgk (c : Int) : Prop := c = 59 ∨ c = 60 ∨ c = 61 ∨ c = 62 ∨ c = 40 ∨ c = 41
/-- how far letters and digits go -/
def ale (B : Nat → Int) : Nat → Nat → Nat
  | 0, p => p
  | m + 1, p => if ltc (B p) ∨ dgc (B p) then ale B m (p + 1) else p
/-- how many letters are among k bytes from q on -/
def nlt (B : Nat → Int) (q : Nat) : Nat → Nat
  | 0 => 0
  | k + 1 => nlt B q k + if ltc (B (q + k)) then 1 else 0
def e27 (B : Nat → Int) (q : Nat) : Nat → Int
  | 0 => 0
  | k + 1 => 27 * e27 B q k + (B (q + k) - 96)
def e32 (B : Nat → Int) (q : Nat) : Nat → Int
  | 0 => 0
  | k + 1 => 32 * e32 B q k + (B (q + k) - 96)
def e10 (B : Nat → Int) (q : Nat) : Nat → Int
  | 0 => 0
  | k + 1 => 10 * e10 B q k + (B (q + k) - 48)
/-- a name of one count in the other's -/
def c32 : Nat → Int → Int
  | 0, _ => 0
  | f + 1, N => 32 * c32 f (N / 27) + N % 27
theorem c32_0 (f : Nat) : c32 f 0 = 0 := by
  induction f with
  | zero => rfl
  | succ f ih =>
    show 32 * c32 f (0 / 27) + 0 % 27 = 0
    rw [show (0 : Int) / 27 = 0 from rfl, ih]
    rfl
theorem c32_e (B : Nat → Int) (q : Nat) : ∀ (k f : Nat), k ≤ f → (∀ i, i < k → ltc (B (q + i))) → c32 f (e27 B q k) = e32 B q k := by
  intro k
  induction k with
  | zero =>
    intro f _ _
    exact c32_0 f
  | succ k ih =>
    intro f hf h
    cases f with
    | zero => omega
    | succ f =>
      have h1 := h k (by omega)
      show 32 * c32 f ((27 * e27 B q k + (B (q + k) - 96)) / 27) + (27 * e27 B q k + (B (q + k) - 96)) % 27 = 32 * e32 B q k + (B (q + k) - 96)
      rw [show (27 * e27 B q k + (B (q + k) - 96)) / 27 = e27 B q k by omega, show (27 * e27 B q k + (B (q + k) - 96)) % 27 = B (q + k) - 96 by omega, ih f (by omega) (fun i hi => h i (by omega))]
theorem c32_lo : ∀ (f : Nat) (N : Int), 0 ≤ N → 0 ≤ c32 f N := by
  intro f
  induction f with
  | zero =>
    intro N _
    exact Int.le_refl 0
  | succ f ih =>
    intro N h
    have h1 := ih (N / 27) (by omega)
    show 0 ≤ 32 * c32 f (N / 27) + N % 27
    omega
theorem c32_inj : ∀ (f : Nat) (N M : Int), 0 ≤ N → 0 ≤ M → N < 27 ^ f → M < 27 ^ f → c32 f N = c32 f M → N = M := by
  intro f
  induction f with
  | zero =>
    intro N M h1 h2 h3 h4 _
    rw [Int.pow_zero] at h3 h4
    omega
  | succ f ih =>
    intro N M h1 h2 h3 h4 h
    rw [Int.pow_succ] at h3 h4
    have h : 32 * c32 f (N / 27) + N % 27 = 32 * c32 f (M / 27) + M % 27 := h
    have hr : c32 f (N / 27) = c32 f (M / 27) ∧ N % 27 = M % 27 := by omega
    have := ih (N / 27) (M / 27) (by omega) (by omega) (by omega) (by omega) hr.1
    omega
theorem e27_bd (B : Nat → Int) (q : Nat) : ∀ k, (∀ i, i < k → ltc (B (q + i))) → 0 ≤ e27 B q k ∧ e27 B q k < 27 ^ k ∧ (0 < k → 0 < e27 B q k) := by
  intro k
  induction k with
  | zero =>
    intro _
    exact ⟨Int.le_refl 0, by rw [Int.pow_zero]; exact Int.one_pos, fun h => absurd h (Nat.lt_irrefl 0)⟩
  | succ k ih =>
    intro h
    obtain ⟨i1, i2, _⟩ := ih (fun i hi => h i (by omega))
    have h1 := h k (by omega)
    rw [Int.pow_succ]
    show 0 ≤ 27 * e27 B q k + (B (q + k) - 96) ∧ 27 * e27 B q k + (B (q + k) - 96) < 27 ^ k * 27 ∧ (0 < k + 1 → 0 < 27 * e27 B q k + (B (q + k) - 96))
    exact ⟨by omega, by omega, fun _ => by omega⟩
theorem e27_b7 (B : Nat → Int) (q k : Nat) (hk : k ≤ 7) (h : ∀ i, i < k → ltc (B (q + i))) : 0 ≤ e27 B q k ∧ e27 B q k < 27 ^ 7 := by
  obtain ⟨h1, h2, _⟩ := e27_bd B q k h
  refine ⟨h1, Int.lt_of_lt_of_le h2 ?_⟩
  have : ∀ j, j ≤ 7 → (27 : Int) ^ j ≤ 27 ^ 7 := by decide +kernel
  exact this k hk
/-- names are told by their letters alone -/
theorem e27_inj (B C : Nat → Int) (p q : Nat) : ∀ (k j : Nat), (∀ i, i < k → ltc (B (p + i))) → (∀ i, i < j → ltc (C (q + i))) → e27 B p k = e27 C q j → k = j ∧ ∀ i, i < k → B (p + i) = C (q + i) := by
  intro k
  induction k with
  | zero =>
    intro j _ h2 h
    cases j with
    | zero => exact ⟨rfl, fun i hi => by omega⟩
    | succ j =>
      have := (e27_bd C q (j + 1) h2).2.2 (by omega)
      rw [← h] at this
      exact absurd this (Int.lt_irrefl 0)
  | succ k ih =>
    intro j h1 h2 h
    cases j with
    | zero =>
      have := (e27_bd B p (k + 1) h1).2.2 (by omega)
      rw [h] at this
      exact absurd this (Int.lt_irrefl 0)
    | succ j =>
      have a1 := h1 k (by omega)
      have a2 := h2 j (by omega)
      have h : 27 * e27 B p k + (B (p + k) - 96) = 27 * e27 C q j + (C (q + j) - 96) := h
      have hr : e27 B p k = e27 C q j ∧ B (p + k) = C (q + j) := by omega
      obtain ⟨rfl, g⟩ := ih j (fun i hi => h1 i (by omega)) (fun i hi => h2 i (by omega)) hr.1
      refine ⟨rfl, fun i hi => ?_⟩
      by_cases e : i = k
      · rw [e]
        exact hr.2
      · exact g i (by omega)
/-- the words of the texts -/
def kwL : List Int := [365869, 277560342, 94424607, 161370, 180595675, 8740370, 247162, 5948362, 10280026, 38363212, 4555648, 85447, 1489744, 1428901390, 2968, 423, 1111, 10631, 82408, 94424593, 6688729, 2546381602, 419, 1961297030, 235990009, 7094782, 212302449]
def KW (j : Nat) : Int := kwL.getD j 0
def klL : List Nat := [4, 6, 6, 4, 6, 5, 4, 5, 5, 6, 5, 4, 5, 7, 3, 2, 3, 3, 4, 6, 5, 7, 2, 7, 6, 5, 6]
def kl (j : Nat) : Nat := klL.getD j 0
def kb (i : Nat) : Int := (keyB.getD i 0).toInt
theorem kb_ok : ∀ j, j < 27 → kl j ≤ 7 ∧ kb (8 * j + kl j) = 32 ∧ (∀ i, i < kl j → ltc (kb (8 * j + i))) ∧ e27 kb (8 * j) (kl j) = KW j := by decide +kernel
/-- word j stands at q, m letters long, as the class asks it -/
def kmt (B : Nat → Int) (q m j : Nat) : Prop := (∀ i, i < m → kb (8 * j + i) = B (q + i)) ∧ kb (8 * j + m) = 32
theorem kmt_iff (B : Nat → Int) (q m j : Nat) (hj : j < 27) (h : ∀ i, i < m → ltc (B (q + i))) : kmt B q m j ↔ e27 B q m = KW j := by
  obtain ⟨k1, k2, k3, k4⟩ := kb_ok j hj
  constructor
  · intro ⟨g1, g2⟩
    have e : m = kl j := by
      rcases Nat.lt_trichotomy m (kl j) with c | c | c
      · have := k3 m c
        rw [g2] at this
        omega
      · exact c
      · have a := g1 (kl j) c
        have b := h (kl j) c
        rw [← a, k2] at b
        omega
    rw [← k4, ← e]
    have : ∀ k, k ≤ m → e27 B q k = e27 kb (8 * j) k := by
      intro k
      induction k with
      | zero => intro _; rfl
      | succ k ih =>
        intro hk
        show 27 * e27 B q k + (B (q + k) - 96) = 27 * e27 kb (8 * j) k + (kb (8 * j + k) - 96)
        rw [ih (by omega), g1 k (by omega)]
    exact this m (Nat.le_refl m)
  · intro g
    rw [← k4] at g
    obtain ⟨e, g2⟩ := e27_inj B kb q (8 * j) m (kl j) h k3 g
    refine ⟨fun i hi => (g2 i hi).symm, ?_⟩
    rw [e]
    exact k2
theorem KW_inj : ∀ i, i < 27 → ∀ j, j < 27 → KW i = KW j → i = j := by decide +kernel
theorem KW_bd : ∀ i, i < 27 → 0 < KW i ∧ KW i < 27 ^ 7 := by decide +kernel
/-- which word, from j on, d of them -/
def kfd (N : Int) : Nat → Nat → Int
  | 0, _ => -1
  | d + 1, j => if N = KW j then (j : Int) else kfd N d (j + 1)
theorem kfd_no {N : Int} : ∀ (d j : Nat), (∀ i, j ≤ i → i < j + d → N ≠ KW i) → kfd N d j = -1 := by
  intro d
  induction d with
  | zero => intro j _; rfl
  | succ d ih =>
    intro j h
    show (if N = KW j then (j : Int) else kfd N d (j + 1)) = -1
    rw [if_neg (h j (by omega) (by omega))]
    exact ih (j + 1) (fun i h1 h2 => h i (by omega) (by omega))
theorem kfd_yes {N : Int} : ∀ (d j k : Nat), j ≤ k → k < j + d → k < 27 → N = KW k → kfd N d j = (k : Int) := by
  intro d
  induction d with
  | zero => intro j k h1 h2; omega
  | succ d ih =>
    intro j k h1 h2 h3 h
    show (if N = KW j then (j : Int) else kfd N d (j + 1)) = (k : Int)
    by_cases e : N = KW j
    · rw [if_pos e]
      have := KW_inj j (by omega) k h3 (by rw [← e, h])
      rw [this]
    · rw [if_neg e]
      exact ih (j + 1) k (by
        have : j ≠ k := fun z => e (by rw [z]; exact h)
        omega) (by omega) h3 h
def kof (N : Int) : Int := kfd N 27 0
theorem kof_cases (N : Int) : (kof N = -1 ∧ ∀ i, i < 27 → N ≠ KW i) ∨ ∃ k : Nat, k < 27 ∧ kof N = (k : Int) ∧ N = KW k := by
  by_cases h : ∃ k, k < 27 ∧ N = KW k
  · obtain ⟨k, h1, h2⟩ := h
    exact Or.inr ⟨k, h1, kfd_yes 27 0 k (by omega) (by omega) h1 h2, h2⟩
  · have h2 : ∀ i, i < 27 → N ≠ KW i := fun i hi e => h ⟨i, hi, e⟩
    exact Or.inl ⟨kfd_no 27 0 (fun i _ hi => h2 i (by omega)), h2⟩
theorem kof_KW {N : Int} {k : Nat} (hk : k < 27) : kof N = (k : Int) ↔ N = KW k := by
  rcases kof_cases N with ⟨h1, h2⟩ | ⟨j, h1, h2, h3⟩
  · constructor
    · intro e
      omega
    · intro e
      exact absurd e (h2 k hk)
  · constructor
    · intro e
      have : j = k := by omega
      rw [← this]
      exact h3
    · intro e
      rw [h2, KW_inj j h1 k hk (by rw [← h3, e])]
end
