/-! pure rows: sums of integers over the first n numbers -/
def fl_S : Nat → (Nat → Int) → Int
  | 0, _ => 0
  | n + 1, f => fl_S n f + f n
theorem fl_S_0 (f : Nat → Int) : fl_S 0 f = 0 := rfl
theorem fl_S_s (n : Nat) (f : Nat → Int) : fl_S (n + 1) f = fl_S n f + f n := rfl
theorem fl_S_congr {n : Nat} {f g : Nat → Int} (h : ∀ i, i < n → f i = g i) : fl_S n f = fl_S n g := by
  induction n with
  | zero => rfl
  | succ n ih => rw [fl_S_s, fl_S_s, ih (fun i hi => h i (by omega)), h n (by omega)]
theorem fl_S_zero (n : Nat) : fl_S n (fun _ => 0) = 0 := by
  induction n with
  | zero => rfl
  | succ n ih => rw [fl_S_s, ih]; rfl
theorem fl_S_add (n : Nat) (f g : Nat → Int) : fl_S n (fun i => f i + g i) = fl_S n f + fl_S n g := by
  induction n with
  | zero => rfl
  | succ n ih => simp only [fl_S_s, ih]; omega
theorem fl_S_sub (n : Nat) (f g : Nat → Int) : fl_S n (fun i => f i - g i) = fl_S n f - fl_S n g := by
  induction n with
  | zero => rfl
  | succ n ih => simp only [fl_S_s, ih]; omega
theorem fl_S_mul (n : Nat) (k : Int) (f : Nat → Int) : fl_S n (fun i => k * f i) = k * fl_S n f := by
  induction n with
  | zero => simp [fl_S]
  | succ n ih => rw [fl_S_s, fl_S_s, ih, Int.mul_add]
theorem fl_S_swap (n m : Nat) (f : Nat → Nat → Int) : fl_S n (fun i => fl_S m (fun j => f i j)) = fl_S m (fun j => fl_S n (fun i => f i j)) := by
  induction n with
  | zero => simp only [fl_S_0]; exact (fl_S_zero m).symm
  | succ n ih => simp only [fl_S_s, ih, fl_S_add]
theorem fl_S_le {n : Nat} {f g : Nat → Int} (h : ∀ i, i < n → f i ≤ g i) : fl_S n f ≤ fl_S n g := by
  induction n with
  | zero => exact Int.le_refl _
  | succ n ih =>
    have h1 := ih (fun i hi => h i (by omega))
    have h2 := h n (by omega)
    simp only [fl_S_s]; omega
theorem fl_S_nonneg {n : Nat} {f : Nat → Int} (h : ∀ i, i < n → 0 ≤ f i) : 0 ≤ fl_S n f := by
  have := fl_S_le (f := fun _ => 0) (g := f) h
  rwa [fl_S_zero] at this
theorem fl_S_out {n k : Nat} (hk : n ≤ k) (f : Nat → Int) : fl_S n (fun i => if i = k then f i else 0) = 0 := by
  rw [fl_S_congr (g := fun _ => 0) (fun i hi => if_neg (by omega)), fl_S_zero]
theorem fl_S_pick {n k : Nat} (hk : k < n) (f : Nat → Int) : fl_S n (fun i => if i = k then f i else 0) = f k := by
  induction n with
  | zero => omega
  | succ n ih =>
    rw [fl_S_s]
    by_cases h : n = k
    · subst h; rw [fl_S_out (Nat.le_refl n)]; simp
    · rw [ih (by omega), if_neg h]; omega
theorem fl_S_pick' {n k : Nat} (hk : k < n) (f : Nat → Int) : fl_S n (fun i => if k = i then f i else 0) = f k := by
  rw [← fl_S_pick hk f]
  exact fl_S_congr (fun i _ => by by_cases h : k = i <;> simp [h, eq_comm])
def fl_up (f : Nat → Int) (k : Nat) (x : Int) : Nat → Int := fun j => if j = k then x else f j
theorem fl_up_s (f : Nat → Int) (k : Nat) (x : Int) : fl_up f k x k = x := if_pos rfl
theorem fl_up_n (f : Nat → Int) {k j : Nat} (x : Int) (h : j ≠ k) : fl_up f k x j = f j := if_neg h
theorem fl_S_up {n k : Nat} (hk : k < n) (f : Nat → Int) (x : Int) : fl_S n (fl_up f k x) = fl_S n f + (x - f k) := by
  have h : fl_S n (fl_up f k x) = fl_S n (fun i => f i + (if i = k then (fun j => x - f j) i else 0)) :=
    fl_S_congr (fun i _ => by by_cases h : i = k <;> simp [fl_up, h] <;> omega)
  rw [h, fl_S_add, fl_S_pick hk]
/-- how many of the first n have less than v -/
def fl_cnt (n : Nat) (t : Nat → Nat) (v : Nat) : Int := fl_S n (fun u => if t u < t v then 1 else 0)
theorem fl_cnt_lt {n : Nat} {t : Nat → Nat} {u v : Nat} (hu : u < n) (h : t u < t v) : fl_cnt n t u < fl_cnt n t v := by
  have h1 : fl_cnt n t u + fl_S n (fun i => if i = u then (fun _ => 1) i else 0) ≤ fl_cnt n t v := by
    unfold fl_cnt
    rw [← fl_S_add]
    refine fl_S_le (fun i _ => ?_)
    by_cases e : i = u
    · subst e; simp [h]
    · simp only [e, if_false]
      by_cases h2 : t i < t u
      · rw [if_pos h2, if_pos (by omega)]; omega
      · rw [if_neg h2]; split <;> omega
  rw [fl_S_pick hu] at h1
  omega
theorem fl_cnt_max {n : Nat} {t : Nat → Nat} {v : Nat} (hv : v < n) : fl_cnt n t v + 1 ≤ n := by
  have h1 : fl_cnt n t v + fl_S n (fun i => if i = v then (fun _ => 1) i else 0) ≤ fl_S n (fun _ => 1) := by
    unfold fl_cnt
    rw [← fl_S_add]
    refine fl_S_le (fun i _ => ?_)
    by_cases e : i = v
    · subst e; simp
    · simp only [e, if_false]; split <;> omega
  have h2 : ∀ k : Nat, fl_S k (fun _ => 1) = k := by
    intro k
    induction k with
    | zero => rfl
    | succ k ih => rw [fl_S_s, ih]; omega
  rw [fl_S_pick hv, h2] at h1
  omega
theorem fl_cnt_0 {n : Nat} {t : Nat → Nat} {v : Nat} : 0 ≤ fl_cnt n t v := fl_S_nonneg (fun i _ => by split <;> omega)
/-- a list of different numbers below n has at most n of them -/
theorem fl_nodup_len : ∀ (n : Nat) (l : List Nat), l.Nodup → (∀ x ∈ l, x < n) → l.length ≤ n := by
  intro n
  induction n with
  | zero =>
    intro l _ h
    cases l with
    | nil => simp
    | cons a l => exact absurd (h a (by simp)) (by omega)
  | succ n ih =>
    intro l hd h
    have h1 : (l.erase n).length ≤ n := by
      refine ih _ (hd.erase n) (fun x hx => ?_)
      have hx1 : x ∈ l := List.mem_of_mem_erase hx
      have hx2 : x ≠ n := fun e => by
        subst e
        exact (List.Nodup.not_mem_erase hd) hx
      have := h x hx1
      omega
    have h2 := List.length_erase (a := n) (l := l)
    split at h2 <;> omega
