/-! pure mathematics of the desk: counts, sums, the first second that isn't closed, a movement's first second -/
section RDM
/-- how many i < n have p -/
def rd_cnt (p : Nat → Bool) : Nat → Nat
  | 0 => 0
  | n + 1 => rd_cnt p n + (if p n = true then 1 else 0)
/-- the sum of f i, i < n -/
def rd_sum (f : Nat → Int) : Nat → Int
  | 0 => 0
  | n + 1 => rd_sum f n + f n
/-- the least i < n with p -/
def rd_fst (p : Nat → Bool) : Nat → Option Nat
  | 0 => none
  | n + 1 => match rd_fst p n with
    | some i => some i
    | none => if p n = true then some n else none
/-- has some i < n p -/
def rd_any (p : Nat → Bool) : Nat → Bool
  | 0 => false
  | n + 1 => rd_any p n || p n
theorem rd_cnt_le (p : Nat → Bool) (n : Nat) : rd_cnt p n ≤ n := by
  induction n with
  | zero => simp [rd_cnt]
  | succ n ih => simp only [rd_cnt]; split <;> omega
theorem rd_cnt_congr {p q : Nat → Bool} {n : Nat} (h : ∀ i, i < n → p i = q i) : rd_cnt p n = rd_cnt q n := by
  induction n with
  | zero => rfl
  | succ n ih => simp only [rd_cnt]; rw [ih (fun i hi => h i (by omega)), h n (by omega)]
theorem rd_cnt_mono {p q : Nat → Bool} {n : Nat} (h : ∀ i, i < n → p i = true → q i = true) : rd_cnt p n ≤ rd_cnt q n := by
  induction n with
  | zero => simp [rd_cnt]
  | succ n ih =>
    have h1 := ih (fun i hi => h i (by omega))
    have h2 := h n (by omega)
    simp only [rd_cnt]
    by_cases hp : p n = true
    · simp [hp, h2 hp]; omega
    · simp [hp]; omega
/-- a subset of the same size is the whole set -/
theorem rd_cnt_all {p q : Nat → Bool} {n : Nat} (h : ∀ i, i < n → p i = true → q i = true) (he : rd_cnt q n ≤ rd_cnt p n) : ∀ i, i < n → q i = true → p i = true := by
  induction n with
  | zero => intro i hi; omega
  | succ n ih =>
    have h1 := rd_cnt_mono (n := n) (fun i hi => h i (by omega))
    have h2 := h n (by omega)
    simp only [rd_cnt] at he
    intro i hi hq
    by_cases hp : p n = true
    · have hqn := h2 hp
      simp [hp, hqn] at he
      rcases Nat.lt_succ_iff_lt_or_eq.mp hi with hlt | heq
      · exact ih (fun i hi => h i (by omega)) he i hlt hq
      · rw [heq]; exact hp
    · simp [hp] at he
      by_cases hqn : q n = true
      · simp [hqn] at he; omega
      · simp [hqn] at he
        rcases Nat.lt_succ_iff_lt_or_eq.mp hi with hlt | heq
        · exact ih (fun i hi => h i (by omega)) he i hlt hq
        · rw [heq] at hq; exact absurd hq hqn
theorem rd_cnt_lt {p q : Nat → Bool} {n j : Nat} (h : ∀ i, i < n → p i = true → q i = true) (hj : j < n) (hq : q j = true) (hp : p j = false) : rd_cnt p n < rd_cnt q n := by
  rcases Nat.lt_or_ge (rd_cnt p n) (rd_cnt q n) with h1 | h1
  · exact h1
  · have := rd_cnt_all h h1 j hj hq
    rw [hp] at this; cases this
/-- one more -/
theorem rd_cnt_set {p : Nat → Bool} {n j : Nat} (hj : j < n) (hp : p j = false) : rd_cnt (fun i => p i || decide (i = j)) n = rd_cnt p n + 1 := by
  induction n with
  | zero => omega
  | succ n ih =>
    simp only [rd_cnt]
    by_cases h : j = n
    · subst h
      have : rd_cnt (fun i => p i || decide (i = j)) j = rd_cnt p j := rd_cnt_congr (fun i hi => by simp; omega)
      rw [this]
      simp [hp]
    · have h1 := ih (by omega)
      rw [h1]
      have : (n = j) = False := by simp; omega
      simp [this]
      omega
theorem rd_sum_congr {f g : Nat → Int} {n : Nat} (h : ∀ i, i < n → f i = g i) : rd_sum f n = rd_sum g n := by
  induction n with
  | zero => rfl
  | succ n ih => simp only [rd_sum]; rw [ih (fun i hi => h i (by omega)), h n (by omega)]
theorem rd_sum_mono {f g : Nat → Int} {n : Nat} (h : ∀ i, i < n → f i ≤ g i) : rd_sum f n ≤ rd_sum g n := by
  induction n with
  | zero => simp [rd_sum]
  | succ n ih =>
    have h1 := ih (fun i hi => h i (by omega))
    have h2 := h n (by omega)
    simp only [rd_sum]; omega
theorem rd_sum_set {f g : Nat → Int} {n j : Nat} {x : Int} (hj : j < n) (h : ∀ i, i < n → i ≠ j → g i = f i) (hx : g j = f j + x) : rd_sum g n = rd_sum f n + x := by
  induction n with
  | zero => omega
  | succ n ih =>
    simp only [rd_sum]
    by_cases hn : j = n
    · subst hn
      rw [rd_sum_congr (g := f) (fun i hi => h i (by omega) (by omega)), hx]
      omega
    · rw [ih (by omega) (fun i hi hne => h i (by omega) hne), h n (by omega) (fun e => hn e.symm)]
      omega
theorem rd_fst_some {p : Nat → Bool} {n i : Nat} (h : rd_fst p n = some i) : i < n ∧ p i = true ∧ ∀ j, j < i → p j = false := by
  induction n with
  | zero => cases h
  | succ n ih =>
    simp only [rd_fst] at h
    cases hf : rd_fst p n with
    | some k =>
      rw [hf] at h
      cases h
      obtain ⟨h1, h2, h3⟩ := ih hf
      exact ⟨by omega, h2, h3⟩
    | none =>
      rw [hf] at h
      by_cases hp : p n = true
      · simp [hp] at h
        subst h
        refine ⟨by omega, hp, ?_⟩
        clear ih hp
        induction n with
        | zero => intro j hj; omega
        | succ n ih2 =>
          simp only [rd_fst] at hf
          cases hg : rd_fst p n with
          | some k => rw [hg] at hf; cases hf
          | none =>
            rw [hg] at hf
            by_cases hp : p n = true
            · simp [hp] at hf
            · intro j hj
              rcases Nat.lt_succ_iff_lt_or_eq.mp hj with h1 | h1
              · exact ih2 hg j h1
              · subst h1; simpa using hp
      · simp [hp] at h
theorem rd_fst_none {p : Nat → Bool} {n : Nat} (h : rd_fst p n = none) : ∀ j, j < n → p j = false := by
  induction n with
  | zero => intro j hj; omega
  | succ n ih =>
    simp only [rd_fst] at h
    cases hg : rd_fst p n with
    | some k => rw [hg] at h; cases h
    | none =>
      rw [hg] at h
      by_cases hp : p n = true
      · simp [hp] at h
      · intro j hj
        rcases Nat.lt_succ_iff_lt_or_eq.mp hj with h1 | h1
        · exact ih hg j h1
        · subst h1; simpa using hp
theorem rd_fst_stop {p : Nat → Bool} {i n : Nat} (hi : i < n) (h : ∀ j, j < i → p j = false) (hp : p i = true) : rd_fst p n = some i := by
  cases hf : rd_fst p n with
  | none => have := rd_fst_none hf i hi; rw [hp] at this; cases this
  | some k =>
    obtain ⟨h1, h2, h3⟩ := rd_fst_some hf
    rcases Nat.lt_trichotomy k i with h4 | h4 | h4
    · rw [h k h4] at h2; cases h2
    · rw [h4]
    · rw [h3 i h4] at hp; cases hp
theorem rd_fst_all {p : Nat → Bool} {n : Nat} (h : ∀ j, j < n → p j = false) : rd_fst p n = none := by
  cases hf : rd_fst p n with
  | none => rfl
  | some k => obtain ⟨h1, h2, -⟩ := rd_fst_some hf; rw [h k h1] at h2; cases h2
theorem rd_fst_congr {p q : Nat → Bool} {n : Nat} (h : ∀ i, i < n → p i = q i) : rd_fst p n = rd_fst q n := by
  induction n with
  | zero => rfl
  | succ n ih => simp only [rd_fst]; rw [ih (fun i hi => h i (by omega)), h n (by omega)]
theorem rd_any_iff {p : Nat → Bool} {n : Nat} : rd_any p n = true ↔ ∃ i, i < n ∧ p i = true := by
  induction n with
  | zero => simp [rd_any]
  | succ n ih =>
    simp only [rd_any, Bool.or_eq_true, ih]
    constructor
    · rintro (⟨i, h1, h2⟩ | h)
      · exact ⟨i, by omega, h2⟩
      · exact ⟨n, by omega, h⟩
    · rintro ⟨i, h1, h2⟩
      rcases Nat.lt_succ_iff_lt_or_eq.mp h1 with h3 | h3
      · exact Or.inl ⟨i, h3, h2⟩
      · subst h3; exact Or.inr h2
theorem rd_any_false {p : Nat → Bool} {n : Nat} : rd_any p n = false ↔ ∀ i, i < n → p i = false := by
  constructor
  · intro h i hi
    cases hp : p i with
    | false => rfl
    | true => have := rd_any_iff.mpr ⟨i, hi, hp⟩; rw [h] at this; cases this
  · intro h
    cases ha : rd_any p n with
    | false => rfl
    | true => obtain ⟨i, h1, h2⟩ := rd_any_iff.mp ha; rw [h i h1] at h2; cases h2
theorem rd_any_congr {p q : Nat → Bool} {n : Nat} (h : ∀ i, i < n → p i = q i) : rd_any p n = rd_any q n := by
  induction n with
  | zero => rfl
  | succ n ih => simp only [rd_any]; rw [ih (fun i hi => h i (by omega)), h n (by omega)]
/-! The desk's state: z f j is what field f holds at j. 0 there, 1 type, 2 early, 3 target, 4 late, 5 weight, 6 frozen, 7 gaps, 8 from, 9 to, 10 (0: closures, 1: limit), 11 result, 12 accepted -/
abbrev rd_Z : Type := Nat → Nat → Int
def rd_th (z : rd_Z) (m : Nat) : Bool := decide (z 0 m ≠ 0)
def rd_nc (z : rd_Z) : Nat := (z 10 0).toNat
def rd_in (z : rd_Z) (s : Int) (c : Nat) : Bool := decide (z 8 c ≤ s) && decide (s ≤ z 9 c)
/-- is the second closed -/
def rd_cl (z : rd_Z) (s : Int) : Bool := rd_any (rd_in z s) (rd_nc z)
/-- t is the first second from s on that isn't closed -/
def rd_Fo (z : rd_Z) (s t : Int) : Prop := s ≤ t ∧ rd_cl z t = false ∧ ∀ u, s ≤ u → u < t → rd_cl z u = true
theorem rd_Fo_one {z : rd_Z} {s t t' : Int} (h : rd_Fo z s t) (h' : rd_Fo z s t') : t = t' := by
  obtain ⟨h1, h2, h3⟩ := h
  obtain ⟨g1, g2, g3⟩ := h'
  rcases Int.lt_trichotomy t t' with h | h | h
  · have := g3 t h1 h; rw [h2] at this; cases this
  · exact h
  · have := h3 t' g1 h; rw [g2] at this; cases this
/-- one sweep over the first n closures -/
def rd_sw (z : rd_Z) (t : Int) : Nat → Int
  | 0 => t
  | k + 1 => if rd_in z (rd_sw z t k) k = true then z 9 k + 1 else rd_sw z t k
def rd_fo (z : rd_Z) (s : Int) : Int := rd_sw z (rd_sw z (rd_sw z (rd_sw z s (rd_nc z)) (rd_nc z)) (rd_nc z)) (rd_nc z)
/-- the closures that lie ahead of t -/
def rd_ps (z : rd_Z) (t : Int) : Nat := rd_cnt (fun k => decide (z 9 k < t)) (rd_nc z)
theorem rd_sw_ge (z : rd_Z) (t : Int) (n : Nat) : t ≤ rd_sw z t n := by
  induction n with
  | zero => simp [rd_sw]
  | succ n ih =>
    simp only [rd_sw]
    split
    · rename_i h
      simp only [rd_in, Bool.and_eq_true, decide_eq_true_eq] at h
      omega
    · exact ih
theorem rd_sw_cl (z : rd_Z) (t : Int) (n : Nat) (hn : n ≤ rd_nc z) : ∀ u, t ≤ u → u < rd_sw z t n → rd_cl z u = true := by
  induction n with
  | zero => intro u h1 h2; simp [rd_sw] at h2; omega
  | succ n ih =>
    intro u h1 h2
    simp only [rd_sw] at h2
    split at h2
    · rename_i h
      rcases Int.lt_or_le u (rd_sw z t n) with h3 | h3
      · exact ih (by omega) u h1 h3
      · simp only [rd_in, Bool.and_eq_true, decide_eq_true_eq] at h
        refine rd_any_iff.mpr ⟨n, by omega, ?_⟩
        simp only [rd_in, Bool.and_eq_true, decide_eq_true_eq]
        omega
    · exact ih (by omega) u h1 h2
theorem rd_sw_stay (z : rd_Z) (t : Int) (n : Nat) (h : ∀ k, k < n → rd_in z t k = false) : rd_sw z t n = t := by
  induction n with
  | zero => rfl
  | succ n ih =>
    simp only [rd_sw]
    rw [ih (fun k hk => h k (by omega)), h n (by omega)]
    simp
theorem rd_sw_past (z : rd_Z) (t : Int) (n k : Nat) (hk : k < n) (h : rd_in z t k = true) : z 9 k < rd_sw z t n := by
  induction n with
  | zero => omega
  | succ n ih =>
    simp only [rd_sw]
    rcases Nat.lt_succ_iff_lt_or_eq.mp hk with h1 | h1
    · have h2 := ih h1
      split
      · rename_i h3
        simp only [rd_in, Bool.and_eq_true, decide_eq_true_eq] at h3
        omega
      · exact h2
    · subst h1
      have hge := rd_sw_ge z t k
      simp only [rd_in, Bool.and_eq_true, decide_eq_true_eq] at h ⊢
      split
      · omega
      · rename_i h3
        omega
theorem rd_ps_le (z : rd_Z) (t : Int) : rd_ps z t ≤ rd_nc z := rd_cnt_le _ _
theorem rd_ps_full {z : rd_Z} {t : Int} (h : rd_nc z ≤ rd_ps z t) : rd_cl z t = false := by
  refine rd_any_false.mpr fun i hi => ?_
  have h1 := rd_cnt_all (p := fun k => decide (z 9 k < t)) (q := fun _ => true) (n := rd_nc z) (fun _ _ _ => rfl) (Nat.le_trans (rd_cnt_le _ _) h) i hi rfl
  simp only [decide_eq_true_eq] at h1
  simp only [rd_in, Bool.and_eq_false_iff, decide_eq_false_iff_not]
  right; omega
/-- to pass one closure that holds t counts one -/
theorem rd_ps_lt {z : rd_Z} {t t' : Int} {k : Nat} (hk : k < rd_nc z) (h : rd_in z t k = true) (ht : t ≤ t') (hp : z 9 k < t') : rd_ps z t < rd_ps z t' := by
  simp only [rd_in, Bool.and_eq_true, decide_eq_true_eq] at h
  refine rd_cnt_lt (j := k) (fun i hi hi2 => ?_) hk (by simpa using hp) (by simp; omega)
  simp only [decide_eq_true_eq] at hi2 ⊢
  omega
theorem rd_sw_step (z : rd_Z) (t : Int) : rd_cl z t = false ∧ rd_sw z t (rd_nc z) = t ∨ rd_ps z t < rd_ps z (rd_sw z t (rd_nc z)) := by
  cases hc : rd_cl z t with
  | false => exact Or.inl ⟨rfl, rd_sw_stay z t _ (rd_any_false.mp hc)⟩
  | true =>
    obtain ⟨k, h1, h2⟩ := rd_any_iff.mp hc
    exact Or.inr (rd_ps_lt h1 h2 (rd_sw_ge _ _ _) (rd_sw_past _ _ _ k h1 h2))
theorem rd_fo_ok (z : rd_Z) (s : Int) (h4 : rd_nc z ≤ 4) : rd_Fo z s (rd_fo z s) := by
  have e : rd_fo z s = rd_sw z (rd_sw z (rd_sw z (rd_sw z s (rd_nc z)) (rd_nc z)) (rd_nc z)) (rd_nc z) := rfl
  obtain ⟨t1, e1⟩ : ∃ x, x = rd_sw z s (rd_nc z) := ⟨_, rfl⟩
  rw [← e1] at e
  obtain ⟨t2, e2⟩ : ∃ x, x = rd_sw z t1 (rd_nc z) := ⟨_, rfl⟩
  rw [← e2] at e
  obtain ⟨t3, e3⟩ : ∃ x, x = rd_sw z t2 (rd_nc z) := ⟨_, rfl⟩
  rw [← e3] at e
  obtain ⟨t4, e4⟩ : ∃ x, x = rd_sw z t3 (rd_nc z) := ⟨_, rfl⟩
  rw [← e4] at e
  have g1 := rd_sw_ge z s (rd_nc z)
  have g2 := rd_sw_ge z t1 (rd_nc z)
  have g3 := rd_sw_ge z t2 (rd_nc z)
  have g4 := rd_sw_ge z t3 (rd_nc z)
  have c1 := rd_sw_cl z s (rd_nc z) (Nat.le_refl _)
  have c2 := rd_sw_cl z t1 (rd_nc z) (Nat.le_refl _)
  have c3 := rd_sw_cl z t2 (rd_nc z) (Nat.le_refl _)
  have c4 := rd_sw_cl z t3 (rd_nc z) (Nat.le_refl _)
  have s1 := rd_sw_step z s
  have s2 := rd_sw_step z t1
  have s3 := rd_sw_step z t2
  have s4 := rd_sw_step z t3
  rw [← e1] at g1 c1 s1
  rw [← e2] at g2 c2 s2
  rw [← e3] at g3 c3 s3
  rw [← e4] at g4 c4 s4
  have l4 := rd_ps_le z t4
  rw [e]
  refine ⟨by omega, ?_, fun u h1 h2 => ?_⟩
  · rcases s4 with ⟨a, b⟩ | s4
    · rw [b]; exact a
    · rcases s3 with ⟨a, b⟩ | s3
      · have : t3 = t2 := b
        rw [this] at e4 s4
        rw [← e3] at e4
        rw [e4, this] at s4
        omega
      · rcases s2 with ⟨a, b⟩ | s2
        · have : t2 = t1 := b
          rw [this] at e3
          rw [← e2] at e3
          rw [e3, this] at s3
          omega
        · rcases s1 with ⟨a, b⟩ | s1
          · have : t1 = s := b
            rw [this] at e2
            rw [← e1] at e2
            rw [e2, this] at s2
            omega
          · exact rd_ps_full (by omega)
  · rcases Int.lt_or_le u t1 with h | h
    · exact c1 u h1 h
    · rcases Int.lt_or_le u t2 with h' | h'
      · exact c2 u h h'
      · rcases Int.lt_or_le u t3 with h'' | h''
        · exact c3 u h' h''
        · exact c4 u h'' h2
theorem rd_fo_mono {z : rd_Z} {a b : Int} (h4 : rd_nc z ≤ 4) (h : a ≤ b) : rd_fo z a ≤ rd_fo z b := by
  obtain ⟨h1, h2, h3⟩ := rd_fo_ok z a h4
  obtain ⟨g1, g2, g3⟩ := rd_fo_ok z b h4
  rcases Int.lt_or_le (rd_fo z b) (rd_fo z a) with h5 | h5
  · have := h3 _ (by omega) h5; rw [g2] at this; cases this
  · exact h5
theorem rd_fo_max {z : rd_Z} {a b : Int} (h4 : rd_nc z ≤ 4) : rd_fo z (max (rd_fo z a) b) = rd_fo z (max a b) := by
  obtain ⟨h1, h2, h3⟩ := rd_fo_ok z a h4
  obtain ⟨g1, g2, g3⟩ := rd_fo_ok z (max (rd_fo z a) b) h4
  refine rd_Fo_one (z := z) (s := max a b) ⟨by omega, g2, fun u k1 k2 => ?_⟩ (rd_fo_ok z _ h4)
  rcases Int.lt_or_le u (max (rd_fo z a) b) with h | h
  · exact h3 u (by omega) (by omega)
  · exact g3 u h k2
/-- a movement's first second from f on, or -1 -/
def rd_sec (z : rd_Z) (m : Nat) (f : Int) : Int :=
  if z 6 m ≠ -1 then (if f ≤ z 6 m ∧ rd_cl z (z 6 m) = false then z 6 m else -1)
  else if rd_fo z (max f (z 2 m)) ≤ z 4 m then rd_fo z (max f (z 2 m)) else -1
/-- what holds of a desk's state at all times -/
def rd_ok (z : rd_Z) : Prop :=
  (∀ m, m < 7 → (z 0 m = 0 ∨ z 0 m = 1) ∧ 0 ≤ z 1 m ∧ z 1 m ≤ 5 ∧ 0 ≤ z 2 m ∧ z 2 m ≤ z 4 m ∧ z 4 m ≤ 3000 ∧ 0 ≤ z 3 m ∧ z 3 m ≤ 3000 ∧ 0 ≤ z 5 m ∧ z 5 m ≤ 100 ∧
    -1 ≤ z 6 m ∧ z 6 m ≤ 3000 ∧ -1 ≤ z 11 m ∧ z 11 m ≤ 3000 ∧ -1 ≤ z 12 m ∧ z 12 m ≤ 3000 ∧ (z 0 m = 0 → z 11 m = -1 ∧ z 12 m = -1)) ∧
  (∀ k, k < 36 → 45 ≤ z 7 k ∧ z 7 k ≤ 300) ∧ 0 ≤ z 10 0 ∧ z 10 0 ≤ 4 ∧ 0 ≤ z 10 1 ∧ z 10 1 ≤ 6 ∧ (∀ k, k < rd_nc z → 0 ≤ z 8 k ∧ z 8 k ≤ z 9 k ∧ z 9 k ≤ 3000)
theorem rd_ok_nc {z : rd_Z} (h : rd_ok z) : rd_nc z ≤ 4 := by
  obtain ⟨-, -, h1, h2, -⟩ := h
  unfold rd_nc; omega
theorem rd_sec_ge {z : rd_Z} {m : Nat} {f : Int} (hz : rd_ok z) (hm : m < 7) (h : rd_sec z m f ≠ -1) : f ≤ rd_sec z m f ∧ 0 ≤ rd_sec z m f ∧ rd_sec z m f ≤ 3000 := by
  have h1 := hz.1 m hm
  have h2 := (rd_fo_ok z (max f (z 2 m)) (rd_ok_nc hz)).1
  unfold rd_sec at h ⊢
  split at h <;> split at h <;> simp_all <;> omega
theorem rd_sec_none {z : rd_Z} {m : Nat} {a b : Int} (hz : rd_ok z) (hab : a ≤ b) (h : rd_sec z m a = -1) (hm : m < 7) : rd_sec z m b = -1 := by
  have h1 := hz.1 m hm
  have h2 := rd_fo_mono (z := z) (a := max a (z 2 m)) (b := max b (z 2 m)) (rd_ok_nc hz) (by omega)
  have h3 := (rd_fo_ok z (max a (z 2 m)) (rd_ok_nc hz)).1
  unfold rd_sec at h ⊢
  by_cases hf : z 6 m ≠ -1
  · rw [if_pos hf] at h ⊢
    by_cases hc : rd_cl z (z 6 m) = false
    · by_cases ha : a ≤ z 6 m
      · rw [if_pos ⟨ha, hc⟩] at h; omega
      · rw [if_neg (fun q => by omega)]
    · rw [if_neg (fun q => hc q.2)]
  · rw [if_neg hf] at h ⊢
    by_cases hl : rd_fo z (max a (z 2 m)) ≤ z 4 m
    · rw [if_pos hl] at h; omega
    · rw [if_neg (by omega)]
theorem rd_sec_mono {z : rd_Z} {m : Nat} {a b : Int} (hz : rd_ok z) (hab : a ≤ b) (h : rd_sec z m b ≠ -1) : rd_sec z m a ≤ rd_sec z m b := by
  have h2 := rd_fo_mono (z := z) (a := max a (z 2 m)) (b := max b (z 2 m)) (rd_ok_nc hz) (by omega)
  unfold rd_sec at h ⊢
  by_cases hf : z 6 m ≠ -1
  · rw [if_pos hf] at h ⊢
    rw [if_pos hf]
    by_cases hc : b ≤ z 6 m ∧ rd_cl z (z 6 m) = false
    · rw [if_pos hc, if_pos ⟨by omega, hc.2⟩]; exact Int.le_refl _
    · rw [if_neg hc] at h; exact absurd rfl h
  · rw [if_neg hf] at h ⊢
    rw [if_neg hf]
    by_cases hl : rd_fo z (max b (z 2 m)) ≤ z 4 m
    · rw [if_pos hl, if_pos (by omega)]; exact h2
    · rw [if_neg hl] at h; exact absurd rfl h
theorem rd_sec_max {z : rd_Z} {m : Nat} {a b : Int} (hz : rd_ok z) (hm : m < 7) (h : rd_sec z m a ≠ -1) : rd_sec z m (max (rd_sec z m a) b) = rd_sec z m (max a b) := by
  have h1 := hz.1 m hm
  have h4 := rd_ok_nc hz
  have h3 := (rd_fo_ok z (max a (z 2 m)) h4).1
  unfold rd_sec at h ⊢
  by_cases hf : z 6 m ≠ -1
  · simp only [if_pos hf] at h ⊢
    by_cases hc : a ≤ z 6 m ∧ rd_cl z (z 6 m) = false
    · simp only [if_pos hc] at h ⊢
      by_cases hb : b ≤ z 6 m
      · rw [if_pos ⟨by omega, hc.2⟩, if_pos ⟨by omega, hc.2⟩]
      · rw [if_neg (fun q => by omega), if_neg (fun q => by omega)]
    · simp only [if_neg hc] at h; exact absurd rfl h
  · simp only [if_neg hf] at h ⊢
    by_cases hl : rd_fo z (max a (z 2 m)) ≤ z 4 m
    · simp only [if_pos hl] at h ⊢
      have e : rd_fo z (max (max (rd_fo z (max a (z 2 m))) b) (z 2 m)) = rd_fo z (max (max a b) (z 2 m)) := by
        have e1 : max (max (rd_fo z (max a (z 2 m))) b) (z 2 m) = max (rd_fo z (max a (z 2 m))) b := by omega
        have e2 : max (max a b) (z 2 m) = max (max a (z 2 m)) b := by omega
        rw [e1, e2, rd_fo_max h4]
      rw [e]
    · simp only [if_neg hl] at h; exact absurd rfl h
end RDM
