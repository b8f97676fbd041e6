/-! pure rows: what flows out of a node beyond what flows in, and the one inequality that all bounds come from -/
def fl_div (n : Nat) (fr to : Nat → Nat) (x : Nat → Int) (v : Nat) : Int := fl_S n (fun a => (if fr a = v then x a else 0) - (if to a = v then x a else 0))
def fl_cost (n : Nat) (c x : Nat → Int) : Int := fl_S n (fun a => c a * x a)
theorem fl_div_pot {N n : Nat} {fr to : Nat → Nat} (hn : ∀ a, a < n → fr a < N ∧ to a < N) (pt x : Nat → Int) : fl_S N (fun v => pt v * fl_div n fr to x v) = fl_S n (fun a => x a * (pt (fr a) - pt (to a))) := by
  have h1 : fl_S N (fun v => pt v * fl_div n fr to x v) = fl_S N (fun v => fl_S n (fun a => pt v * ((if fr a = v then x a else 0) - (if to a = v then x a else 0)))) :=
    fl_S_congr (fun v _ => by unfold fl_div; rw [fl_S_mul])
  rw [h1, fl_S_swap]
  refine fl_S_congr (fun a ha => ?_)
  obtain ⟨h2, h3⟩ := hn a ha
  have h4 : fl_S N (fun v => pt v * ((if fr a = v then x a else 0) - (if to a = v then x a else 0))) = fl_S N (fun v => (if fr a = v then (fun u => pt u * x a) v else 0) - (if to a = v then (fun u => pt u * x a) v else 0)) :=
    fl_S_congr (fun v _ => by
      by_cases e1 : fr a = v <;> by_cases e2 : to a = v <;> simp [e1, e2, Int.mul_sub, Int.mul_neg])
  rw [h4, fl_S_sub, fl_S_pick' h2, fl_S_pick' h3]
  show pt (fr a) * x a - pt (to a) * x a = _
  rw [Int.mul_sub, Int.mul_comm, Int.mul_comm (pt (to a))]
/-- x lies between 0 and the capacities (-1: none) -/
def fl_Bd (n : Nat) (cap x : Nat → Int) : Prop := ∀ a, a < n → 0 ≤ x a ∧ (cap a = -1 ∨ x a ≤ cap a)
/-- with the node numbers pt, no arc with room is below 0, none that has something above it -/
def fl_Slk (n : Nat) (fr to : Nat → Nat) (cap c pt x : Nat → Int) : Prop := ∀ a, a < n → (c a + pt (fr a) - pt (to a) < 0 → cap a ≠ -1 ∧ x a = cap a) ∧ (0 < c a + pt (fr a) - pt (to a) → x a = 0)
theorem fl_weak {N n : Nat} {fr to : Nat → Nat} {cap c pt x y : Nat → Int} (hn : ∀ a, a < n → fr a < N ∧ to a < N) (hy : fl_Bd n cap y) (hs : fl_Slk n fr to cap c pt x) :
    fl_cost n c x + fl_S N (fun v => pt v * fl_div n fr to x v) ≤ fl_cost n c y + fl_S N (fun v => pt v * fl_div n fr to y v) := by
  rw [fl_div_pot hn, fl_div_pot hn]
  unfold fl_cost
  rw [← fl_S_add, ← fl_S_add]
  refine fl_S_le (fun a ha => ?_)
  obtain ⟨h1, h2⟩ := hs a ha
  obtain ⟨h3, h4⟩ := hy a ha
  have e1 : c a * x a + x a * (pt (fr a) - pt (to a)) = (c a + pt (fr a) - pt (to a)) * x a := by grind
  have e2 : c a * y a + y a * (pt (fr a) - pt (to a)) = (c a + pt (fr a) - pt (to a)) * y a := by grind
  rw [e1, e2]
  generalize c a + pt (fr a) - pt (to a) = k at h1 h2 ⊢
  rcases Int.lt_trichotomy k 0 with hk | hk | hk
  · obtain ⟨h5, h6⟩ := h1 hk
    have h7 : y a ≤ x a := by omega
    exact Int.mul_le_mul_of_nonpos_left (by omega) h7
  · rw [hk]; simp
  · rw [h2 hk]
    have := Int.mul_nonneg (Int.le_of_lt hk) h3
    simpa using this
theorem fl_div_up {n : Nat} {fr to : Nat → Nat} {a : Nat} (ha : a < n) (x : Nat → Int) (y : Int) (v : Nat) :
    fl_div n fr to (fl_up x a y) v = fl_div n fr to x v + ((if fr a = v then y - x a else 0) - (if to a = v then y - x a else 0)) := by
  have h1 : fl_div n fr to (fl_up x a y) v = fl_S n (fl_up (fun b => (if fr b = v then x b else 0) - (if to b = v then x b else 0)) a ((if fr a = v then y else 0) - (if to a = v then y else 0))) :=
    fl_S_congr (fun b _ => by
      by_cases e : b = a
      · subst e; rw [fl_up_s, fl_up_s]
      · rw [fl_up_n _ _ e, fl_up_n _ _ e])
  rw [h1, fl_S_up ha]
  unfold fl_div
  by_cases e1 : fr a = v <;> by_cases e2 : to a = v <;> simp [e1, e2] <;> omega
theorem fl_div_congr {n : Nat} {fr to : Nat → Nat} {x y : Nat → Int} (h : ∀ a, a < n → x a = y a) (v : Nat) : fl_div n fr to x v = fl_div n fr to y v :=
  fl_S_congr (fun a ha => by rw [h a ha])
theorem fl_cost_up {n : Nat} {c : Nat → Int} {a : Nat} (ha : a < n) (x : Nat → Int) (y : Int) : fl_cost n c (fl_up x a y) = fl_cost n c x + c a * (y - x a) := by
  have h1 : fl_cost n c (fl_up x a y) = fl_S n (fl_up (fun b => c b * x b) a (c a * y)) :=
    fl_S_congr (fun b _ => by
      by_cases e : b = a
      · subst e; rw [fl_up_s, fl_up_s]
      · rw [fl_up_n _ _ e, fl_up_n _ _ e])
  rw [h1, fl_S_up ha, Int.mul_sub]
  rfl
/-- what flows out of all nodes together is nothing -/
theorem fl_div_sum {N n : Nat} {fr to : Nat → Nat} (hn : ∀ a, a < n → fr a < N ∧ to a < N) (x : Nat → Int) : fl_S N (fun v => fl_div n fr to x v) = 0 := by
  have h := fl_div_pot hn (fun _ => 1) x
  have h1 : fl_S N (fun v => (1 : Int) * fl_div n fr to x v) = fl_S N (fun v => fl_div n fr to x v) := fl_S_congr (fun v _ => Int.one_mul _)
  have h2 : fl_S n (fun a => x a * ((1 : Int) - 1)) = 0 := by
    rw [fl_S_congr (g := fun _ => 0) (fun a _ => by simp), fl_S_zero]
  rw [h1] at h
  rw [h]
  exact h2
