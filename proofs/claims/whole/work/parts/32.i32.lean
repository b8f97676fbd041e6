/-! pure rows: int32 and integers; reading and writing the rows -/
theorem i_add {a b : Int32} (h1 : -2147483648 ≤ a.toInt + b.toInt) (h2 : a.toInt + b.toInt ≤ 2147483647) : (a + b).toInt = a.toInt + b.toInt := by
  rw [Int32.toInt_add]; exact Int.bmod_eq_of_le (by omega) (by omega)
theorem i_sub {a b : Int32} (h1 : -2147483648 ≤ a.toInt - b.toInt) (h2 : a.toInt - b.toInt ≤ 2147483647) : (a - b).toInt = a.toInt - b.toInt := by
  rw [Int32.toInt_sub]; exact Int.bmod_eq_of_le (by omega) (by omega)
theorem i_mul {a b : Int32} (h1 : -2147483648 ≤ a.toInt * b.toInt) (h2 : a.toInt * b.toInt ≤ 2147483647) : (a * b).toInt = a.toInt * b.toInt := by
  rw [Int32.toInt_mul]; exact Int.bmod_eq_of_le (by omega) (by omega)
theorem i_neg {a : Int32} (h1 : -2147483647 ≤ a.toInt) : (-a).toInt = -a.toInt := by
  rw [Int32.toInt_neg]
  have h2 : a.toInt ≤ 2147483647 := Int32.toInt_le a
  exact Int.bmod_eq_of_le (by omega) (by omega)
theorem i_lt {a b : Int32} : a < b ↔ a.toInt < b.toInt := Int32.lt_iff_toInt_lt
theorem i_le {a b : Int32} : a ≤ b ↔ a.toInt ≤ b.toInt := Int32.le_iff_toInt_le
theorem i_eq {a b : Int32} : a = b ↔ a.toInt = b.toInt := Int32.toInt_inj.symm
theorem st_s (σ : fl_St) (k j : Nat) (x : Int32) : st σ k j x k j = x := by simp [st, upd]
theorem st_k (σ : fl_St) {k k' : Nat} (j : Nat) (x : Int32) (h : k' ≠ k) : st σ k j x k' = σ k' := if_neg h
theorem st_j (σ : fl_St) (k : Nat) {j j' : Nat} (x : Int32) (h : j' ≠ j) : st σ k j x k j' = σ k j' := by simp [st, upd, h]
theorem st_v (σ : fl_St) (k j : Nat) (x : Int32) (j' : Nat) : st σ k j x k j' = if j' = j then x else σ k j' := by simp [st, upd]
theorem fl_rd_n {σ : fl_St} {k n j : Nat} (h : j < n) (hn : n < 1000) : fl_rd σ k n (nI j) = some (σ k j) := by
  unfold fl_rd
  rw [if_neg (nI_in h (by omega)), nI_clamp (by omega)]
theorem fl_wr_n {σ : fl_St} {k n j : Nat} {x : Int32} (h : j < n) (hn : n < 1000) : fl_wr σ k n (nI j) x = some (st σ k j x) := by
  unfold fl_wr
  rw [if_neg (nI_in h (by omega)), nI_clamp (by omega)]
theorem fl_bs {α β : Type} (a : α) (f : α → Option β) : (some a).bind f = f a := rfl
theorem fl_b2s {α β γ : Type} (a : α) (b : β) (f : α → β → Option γ) : fl_b2 (some (a, b)) f = f a b := rfl
theorem fl_b3s {α β δ γ : Type} (a : α) (b : β) (c : δ) (f : α → β → δ → Option γ) : fl_b3 (some (a, b, c)) f = f a b c := rfl
theorem nI_2 (j : Nat) : (2 : Int32) * nI j = nI (2 * j) := pk_mul 2 j
theorem nI_21 (j : Nat) : (2 : Int32) * nI j + 1 = nI (2 * j + 1) := by rw [nI_2, nI_1]
theorem nI_t {j : Nat} (h : j < 1000000) : (nI j).toInt = j := nI_toInt (by omega)
theorem nI_m1 {j : Nat} (h : j < 1000000) : nI j ≠ -1 := fun e => by
  have := congrArg Int32.toInt e
  rw [nI_t h] at this
  have e2 : (-1 : Int32).toInt = -1 := by decide
  omega
/-- the links of the arcs: 2a is arc a forth, 2a + 1 back -/
def lk_tl (fr to : Nat → Nat) (j : Nat) : Nat := if j % 2 = 0 then fr (j / 2) else to (j / 2)
def lk_hd (fr to : Nat → Nat) (j : Nat) : Nat := if j % 2 = 0 then to (j / 2) else fr (j / 2)
theorem lk_t0 (fr to : Nat → Nat) (a : Nat) : lk_tl fr to (2 * a) = fr a := by unfold lk_tl; rw [if_pos (by omega), show 2 * a / 2 = a by omega]
theorem lk_t1 (fr to : Nat → Nat) (a : Nat) : lk_tl fr to (2 * a + 1) = to a := by unfold lk_tl; rw [if_neg (by omega), show (2 * a + 1) / 2 = a by omega]
theorem lk_h0 (fr to : Nat → Nat) (a : Nat) : lk_hd fr to (2 * a) = to a := by unfold lk_hd; rw [if_pos (by omega), show 2 * a / 2 = a by omega]
theorem lk_h1 (fr to : Nat → Nat) (a : Nat) : lk_hd fr to (2 * a + 1) = fr a := by unfold lk_hd; rw [if_neg (by omega), show (2 * a + 1) / 2 = a by omega]
/-- arcs lead between two different ones of N nodes -/
def fl_Ar (N n : Nat) (fr to : Nat → Nat) : Prop := ∀ a, a < n → fr a < N ∧ to a < N ∧ fr a ≠ to a
theorem lk_in {N n : Nat} {fr to : Nat → Nat} (h : fl_Ar N n fr to) {j : Nat} (hj : j < 2 * n) : lk_tl fr to j < N ∧ lk_hd fr to j < N ∧ lk_tl fr to j ≠ lk_hd fr to j := by
  obtain ⟨h1, h2, h3⟩ := h (j / 2) (by omega)
  unfold lk_tl lk_hd
  by_cases e : j % 2 = 0
  · rw [if_pos e, if_pos e]; exact ⟨h1, h2, h3⟩
  · rw [if_neg e, if_neg e]; exact ⟨h2, h1, fun q => h3 q.symm⟩
/-- the class's links as they are laid: tails, heads and weights -/
def cl_L (σ : fl_St) (n : Nat) (fr to : Nat → Nat) (w : Nat → Int) : Prop := σ 12 0 = nI n ∧ ∀ j, j < 2 * n → σ 5 j = nI (lk_tl fr to j) ∧ σ 6 j = nI (lk_hd fr to j) ∧ (σ 7 j).toInt = w j
theorem cl_L.mv {σ σ' : fl_St} {n : Nat} {fr to : Nat → Nat} {w : Nat → Int} (h : cl_L σ n fr to w) (e5 : σ' 5 = σ 5) (e6 : σ' 6 = σ 6) (e7 : σ' 7 = σ 7) (e12 : σ' 12 = σ 12) : cl_L σ' n fr to w := by
  unfold cl_L; rw [e5, e6, e7, e12]; exact h
/-- isShortcut -/
theorem p_isShortcut {σ : fl_St} {n : Nat} {fr to : Nat → Nat} {w : Nat → Int} (hn : n ≤ 20) (ha : fl_Ar 8 n fr to) (hl : cl_L σ n fr to w) {j : Nat} (hj : j < 2 * n)
    (b1 : -2000000000 ≤ (σ 10 (lk_tl fr to j)).toInt + w j) (b2 : (σ 10 (lk_tl fr to j)).toInt + w j ≤ 2000000000) :
    f_X1_isShortcut (nI j) σ = some (if (σ 10 (lk_tl fr to j)).toInt + w j < (σ 10 (lk_hd fr to j)).toInt then 1 else 0) := by
  obtain ⟨h1, h2, h3⟩ := lk_in ha hj
  obtain ⟨q1, q2, q3⟩ := hl.2 j hj
  unfold f_X1_isShortcut
  rw [fl_rd_n (by omega) (by omega), fl_bs, q1, fl_rd_n h1 (by omega), fl_bs, fl_rd_n (by omega) (by omega), fl_bs, fl_rd_n (by omega) (by omega), fl_bs, q2, fl_rd_n h2 (by omega), fl_bs]
  have e : (σ 10 (lk_tl fr to j) + σ 7 j).toInt = (σ 10 (lk_tl fr to j)).toInt + w j := by rw [i_add (by omega) (by omega), q3]
  by_cases c : (σ 10 (lk_tl fr to j)).toInt + w j < (σ 10 (lk_hd fr to j)).toInt
  · rw [if_pos c, if_neg (by rw [i_le, e]; omega)]; rfl
  · rw [if_neg c, if_pos (by rw [i_le, e]; omega)]; rfl
