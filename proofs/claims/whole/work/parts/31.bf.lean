/-! pure rows: Bellman and Ford in place: links 0 .. m - 1 are scanned in order, round after round -/
def bf_Pot (m : Nat) (op : Nat → Prop) (tl hd : Nat → Nat) (w : Nat → Int) (pt : Nat → Int) : Prop := ∀ j, j < m → op j → pt (hd j) ≤ pt (tl j) + w j
/-- what stands of the distances d, the entries en, the hours tm of the last changes, the ways ch that they came -/
def bf_G (N m : Nat) (op : Nat → Prop) (tl hd : Nat → Nat) (w : Nat → Int) (F : Int) (ini d en : Nat → Int) (tm : Nat → Nat) (rd : Nat → Int) (ch : Nat → List (Nat × Int)) (T : Nat) : Prop :=
  (∀ v, v < N → tm v < T) ∧ (∀ v, v < N → d v ≤ ini v) ∧ (∀ v, v < N → en v = -1 → d v = ini v ∧ rd v = -1) ∧
  (∀ v, v < N → en v ≠ -1 → d v < F ∧ ∃ j : Nat, j < m ∧ en v = (j : Int) ∧ op j ∧ hd j = v ∧ d (tl j) < F ∧ rd v ≤ rd (tl j) + 1 ∧ ((d v = d (tl j) + w j ∧ tm (tl j) < tm v) ∨ d (tl j) + w j < d v)) ∧
  (∀ v, v < N → d v < F → rd v + 2 ≤ (ch v).length ∧ (∀ q, q ∈ ch v → q.1 < N ∧ d q.1 ≤ q.2 ∧ ∀ pt, bf_Pot m op tl hd w pt → q.2 - pt q.1 ≤ d v - pt v) ∧ ((∃ pt, bf_Pot m op tl hd w pt) → ((ch v).map Prod.fst).Nodup))
def bf_V (N m : Nat) (op : Nat → Prop) (tl hd : Nat → Nat) (w : Nat → Int) (F : Int) (r k : Nat) (d rd : Nat → Int) : Prop :=
  (∀ v, v < N → rd v ≤ r) ∧ ∀ j, j < m → op j → d (tl j) < F → d (tl j) + w j < d (hd j) → (if j < k then (r : Int) else (r : Int) - 1) ≤ rd (tl j)
def bf_C (N : Nat) (op : Nat → Prop) (tl hd : Nat → Nat) (w : Nat → Int) (F : Int) (r k : Nat) (cg : Bool) (la : Nat) (d rd : Nat → Int) : Prop :=
  (cg = false → ∀ j, j < k → op j → d (tl j) < F → d (hd j) ≤ d (tl j) + w j) ∧ (cg = true → la < N ∧ d la < F ∧ rd la = r)
def bf_B (N : Nat) (F B : Int) (T : Nat) (d : Nat → Int) : Prop := ∀ v, v < N → d v < F → -(B * T) ≤ d v ∧ d v ≤ B * T
def bf_I (N m : Nat) (op : Nat → Prop) (tl hd : Nat → Nat) (w : Nat → Int) (F B : Int) (ini : Nat → Int) (r k : Nat) (cg : Bool) (la : Nat) (T : Nat) (d en : Nat → Int) : Prop :=
  ∃ (tm : Nat → Nat) (rd : Nat → Int) (ch : Nat → List (Nat × Int)), bf_G N m op tl hd w F ini d en tm rd ch T ∧ bf_V N m op tl hd w F r k d rd ∧ bf_C N op tl hd w F r k cg la d rd ∧ bf_B N F B T d
section BF
variable {N m : Nat} {op : Nat → Prop} {tl hd : Nat → Nat} {w : Nat → Int} {F B : Int} {ini : Nat → Int} {r k : Nat} {cg : Bool} {la T : Nat} {d en : Nat → Int}
theorem bf_start (hB : 0 ≤ B) (hi : ∀ v, v < N → ini v = F ∨ ini v = 0) (hen : ∀ v, v < N → en v = -1) (hd0 : ∀ v, v < N → d v = ini v) : bf_I N m op tl hd w F B ini 0 0 false la 1 d en := by
  refine ⟨fun _ => 0, fun _ => -1, fun v => [(v, d v)], ⟨fun _ _ => Nat.zero_lt_one, fun v hv => by rw [hd0 v hv]; exact Int.le_refl _, fun v hv _ => ⟨hd0 v hv, rfl⟩, fun v hv h => absurd (hen v hv) h, fun v hv h => ⟨by simp, fun q hq => ?_, fun _ => by simp⟩⟩, ⟨fun _ _ => by simp, fun j _ _ _ _ => by simp⟩, ⟨fun _ j hj => by omega, fun h => by cases h⟩, fun v hv h => ?_⟩
  · simp only [List.mem_singleton] at hq
    subst hq
    exact ⟨hv, Int.le_refl _, fun _ _ => Int.le_refl _⟩
  · rcases hi v hv with e | e
    · rw [hd0 v hv, e] at h; omega
    · rw [hd0 v hv, e]; constructor <;> omega
theorem bf_skip (hB : 0 ≤ B) (h : bf_I N m op tl hd w F B ini r k cg la T d en) (hc : ¬ (op k ∧ d (tl k) < F ∧ d (tl k) + w k < d (hd k))) : bf_I N m op tl hd w F B ini r (k + 1) cg la (T + 1) d en := by
  obtain ⟨tm, rd, ch, ⟨g1, g2, g3, g4, g5⟩, ⟨hrv, hV⟩, ⟨c1, c2⟩, hb⟩ := h
  refine ⟨tm, rd, ch, ⟨fun v hv => Nat.lt_succ_of_lt (g1 v hv), g2, g3, g4, g5⟩, ⟨hrv, ?_⟩, ⟨?_, c2⟩, ?_⟩
  · intro j hj ho hf hv
    have h1 := hV j hj ho hf hv
    have hne : j ≠ k := fun e => by subst e; exact hc ⟨ho, hf, hv⟩
    by_cases h2 : j < k
    · rw [if_pos h2] at h1; rw [if_pos (by omega)]; exact h1
    · rw [if_neg h2] at h1; rw [if_neg (by omega)]; exact h1
  · intro hcg j hj ho hf
    by_cases e : j = k
    · subst e
      exact Int.not_lt.mp fun q => hc ⟨ho, hf, q⟩
    · exact c1 hcg j (by omega) ho hf
  · intro v hv hf
    have h1 := hb v hv hf
    have h2 : B * ((T + 1 : Nat) : Int) = B * T + B := by rw [Int.natCast_add, Int.mul_add]; simp
    rw [h2]
    constructor <;> omega
theorem bf_step (hB : 0 ≤ B) (hk : k < m) (ht : tl k < N) (hh : hd k < N) (hne : tl k ≠ hd k) (hw : -B ≤ w k ∧ w k ≤ B) (hF : B * ((T + 1 : Nat) : Int) < F)
    (h : bf_I N m op tl hd w F B ini r k cg la T d en) (ho : op k) (hf : d (tl k) < F) (hv : d (tl k) + w k < d (hd k)) :
    bf_I N m op tl hd w F B ini r (k + 1) true (hd k) (T + 1) (fl_up d (hd k) (d (tl k) + w k)) (fl_up en (hd k) (k : Int)) := by
  obtain ⟨tm, rd, ch, ⟨g1, g2, g3, g4, g5⟩, ⟨hrv, hV⟩, ⟨c1, c2⟩, hb⟩ := h
  have hB2 : B * ((T + 1 : Nat) : Int) = B * T + B := by rw [Int.natCast_add, Int.mul_add]; simp
  have hbt := hb (tl k) ht hf
  have hrd : (r : Int) - 1 ≤ rd (tl k) := by
    have := hV k hk ho hf hv
    rwa [if_neg (Nat.lt_irrefl k)] at this
  have dT : fl_up d (hd k) (d (tl k) + w k) (tl k) = d (tl k) := fl_up_n _ _ hne
  have dH : fl_up d (hd k) (d (tl k) + w k) (hd k) = d (tl k) + w k := fl_up_s _ _ _
  have dle : ∀ v, fl_up d (hd k) (d (tl k) + w k) v ≤ d v := by
    intro v
    by_cases e : v = hd k
    · rw [e, dH]; omega
    · rw [fl_up_n _ _ e]; exact Int.le_refl _
  have rle : ∀ v, rd v ≤ fl_up rd (hd k) r v ∨ v = hd k := by
    intro v
    by_cases e : v = hd k
    · exact Or.inr e
    · left; rw [fl_up_n _ _ e]; exact Int.le_refl _
  obtain ⟨tn, tnH, tnN⟩ : ∃ f : Nat → Nat, f (hd k) = T ∧ ∀ v, v ≠ hd k → f v = tm v := ⟨fun v => if v = hd k then T else tm v, if_pos rfl, fun v h => if_neg h⟩
  obtain ⟨cn, cnH, cnN⟩ : ∃ f : Nat → List (Nat × Int), f (hd k) = (hd k, d (tl k) + w k) :: ch (tl k) ∧ ∀ v, v ≠ hd k → f v = ch v := ⟨fun v => if v = hd k then (hd k, d (tl k) + w k) :: ch (tl k) else ch v, if_pos rfl, fun v h => if_neg h⟩
  refine ⟨tn, fl_up rd (hd k) r, cn, ⟨?_, ?_, ?_, ?_, ?_⟩, ⟨?_, ?_⟩, ⟨fun h => (by cases h), fun _ => ⟨hh, by rw [dH]; omega, fl_up_s _ _ _⟩⟩, ?_⟩
  · intro v hv'
    by_cases e : v = hd k
    · rw [e, tnH]; omega
    · rw [tnN v e]; exact Nat.lt_succ_of_lt (g1 v hv')
  · intro v hv'
    exact Int.le_trans (dle v) (g2 v hv')
  · intro v hv' he
    by_cases e : v = hd k
    · rw [e, fl_up_s] at he; omega
    · rw [fl_up_n _ _ e] at he
      rw [fl_up_n _ _ e, fl_up_n _ _ e]
      exact g3 v hv' he
  · intro v hv' he
    by_cases e : v = hd k
    · subst e
      rw [dH]
      refine ⟨by omega, k, hk, fl_up_s _ _ _, ho, rfl, by rw [dT]; exact hf, by rw [fl_up_s, fl_up_n _ _ hne]; omega, Or.inl ⟨by rw [dT], ?_⟩⟩
      rw [tnH, tnN _ hne]
      exact g1 _ ht
    · rw [fl_up_n _ _ e] at he
      obtain ⟨a1, j, a2, a3, a4, a5, a6, a9, a7⟩ := g4 v hv' he
      rw [fl_up_n _ _ e, fl_up_n _ _ e, fl_up_n _ _ e]
      refine ⟨a1, j, a2, a3, a4, a5, Int.lt_of_le_of_lt (dle _) a6, ?_, ?_⟩
      · by_cases e2 : tl j = hd k
        · rw [e2, fl_up_s]
          have := hrv v hv'
          omega
        · rw [fl_up_n _ _ e2]; exact a9
      by_cases e2 : tl j = hd k
      · right
        rw [e2, dH]
        rw [e2] at a7
        rcases a7 with ⟨a7, -⟩ | a7 <;> omega
      · rw [fl_up_n _ _ e2]
        rcases a7 with ⟨a7, a8⟩ | a7
        · left
          refine ⟨a7, ?_⟩
          rw [tnN _ e2, tnN _ e]
          exact a8
        · exact Or.inr a7
  · intro v hv' hfv
    by_cases e : v = hd k
    · subst e
      rw [dH]
      rw [cnH, fl_up_s]
      obtain ⟨b1, b2, b3⟩ := g5 (tl k) ht hf
      refine ⟨by rw [List.length_cons]; omega, ?_, ?_⟩
      · intro q hq
        rcases List.mem_cons.mp hq with rfl | hq
        · exact ⟨hh, by rw [dH]; exact Int.le_refl _, fun _ _ => Int.le_refl _⟩
        · obtain ⟨x1, x2, x3⟩ := b2 q hq
          refine ⟨x1, Int.le_trans (dle _) x2, fun pt hpt => ?_⟩
          have y1 := x3 pt hpt
          have y2 := hpt k hk ho
          omega
      · intro hp
        rw [List.map_cons, List.nodup_cons]
        refine ⟨fun hm => ?_, b3 hp⟩
        obtain ⟨q, hq, hqe⟩ := List.mem_map.mp hm
        obtain ⟨pt, hpt⟩ := hp
        obtain ⟨x1, x2, x3⟩ := b2 q hq
        have y1 := x3 pt hpt
        have y2 := hpt k hk ho
        have y3 : q.1 = hd k := hqe
        rw [y3] at x2 y1
        omega
    · rw [fl_up_n _ _ e] at hfv
      rw [fl_up_n _ _ e, fl_up_n _ _ e]
      rw [cnN _ e]
      obtain ⟨b1, b2, b3⟩ := g5 v hv' hfv
      refine ⟨b1, fun q hq => ?_, b3⟩
      obtain ⟨x1, x2, x3⟩ := b2 q hq
      exact ⟨x1, Int.le_trans (dle _) x2, x3⟩
  · intro v hv'
    by_cases e : v = hd k
    · rw [e, fl_up_s]; exact Int.le_refl _
    · rw [fl_up_n _ _ e]; exact hrv v hv'
  · intro j hj hoj hfj hvj
    by_cases e2 : tl j = hd k
    · rw [e2, fl_up_s]
      split <;> omega
    · rw [fl_up_n _ _ e2]
      rw [fl_up_n _ _ e2] at hfj hvj
      have hvo : d (tl j) + w j < d (hd j) := Int.lt_of_lt_of_le hvj (dle _)
      have h1 := hV j hj hoj hfj hvo
      have hjk : j ≠ k := fun e => by
        subst e
        rw [dH] at hvj
        omega
      by_cases h2 : j < k
      · rw [if_pos h2] at h1; rw [if_pos (by omega)]; exact h1
      · rw [if_neg h2] at h1; rw [if_neg (by omega)]; exact h1
  · intro v hv' hfv
    rw [hB2]
    by_cases e : v = hd k
    · rw [e, dH]
      constructor <;> omega
    · rw [fl_up_n _ _ e] at hfv ⊢
      have := hb v hv' hfv
      constructor <;> omega
theorem bf_round (h : bf_I N m op tl hd w F B ini r m cg la T d en) (lb : Nat) : bf_I N m op tl hd w F B ini (r + 1) 0 false lb T d en := by
  obtain ⟨tm, rd, ch, g, ⟨hrv, hV⟩, -, hb⟩ := h
  refine ⟨tm, rd, ch, g, ⟨fun v hv => by have := hrv v hv; omega, ?_⟩, ⟨fun _ j hj => by omega, fun h => by cases h⟩, hb⟩
  intro j hj ho hf hv
  have := hV j hj ho hf hv
  rw [if_pos hj] at this
  rw [if_neg (Nat.not_lt_zero j)]
  omega
/-- a potential bounds the rounds that change something -/
theorem bf_few (h : bf_I N m op tl hd w F B ini r m true la T d en) (hp : ∃ pt, bf_Pot m op tl hd w pt) : r + 2 ≤ N := by
  obtain ⟨tm, rd, ch, ⟨-, -, -, -, g5⟩, -, ⟨-, c2⟩, -⟩ := h
  obtain ⟨hv, hf, hl⟩ := c2 rfl
  obtain ⟨b1, b2, b3⟩ := g5 la hv hf
  have := fl_nodup_len N ((ch la).map Prod.fst) (b3 hp) (fun x hx => by
    obtain ⟨q, hq, rfl⟩ := List.mem_map.mp hx
    exact (b2 q hq).1)
  rw [List.length_map] at this
  omega
/-- a round that changed nothing: the distances are those of a fixed point, and the entries lead back -/
def bf_Z (N m : Nat) (op : Nat → Prop) (tl hd : Nat → Nat) (w : Nat → Int) (F B : Int) (ini : Nat → Int) (T : Nat) (d en : Nat → Int) : Prop :=
  (∀ v, v < N → d v ≤ ini v) ∧ (∀ v, v < N → en v = -1 → d v = ini v) ∧ (∀ j, j < m → op j → d (tl j) < F → d (hd j) ≤ d (tl j) + w j) ∧
  (∃ tm : Nat → Nat, ∀ v, v < N → en v ≠ -1 → d v < F ∧ ∃ j : Nat, j < m ∧ en v = (j : Int) ∧ op j ∧ hd j = v ∧ d (tl j) < F ∧ d v = d (tl j) + w j ∧ tm (tl j) < tm v) ∧ bf_B N F B T d
theorem bf_end (h : bf_I N m op tl hd w F B ini r m false la T d en) : bf_Z N m op tl hd w F B ini T d en := by
  obtain ⟨tm, rd, ch, ⟨g1, g2, g3, g4, g5⟩, hV, ⟨c1, -⟩, hb⟩ := h
  refine ⟨g2, fun v hv he => (g3 v hv he).1, fun j hj => c1 rfl j hj, ⟨tm, fun v hv he => ?_⟩, hb⟩
  obtain ⟨a1, j, a2, a3, a4, a5, a6, -, a7⟩ := g4 v hv he
  refine ⟨a1, j, a2, a3, a4, a5, a6, ?_⟩
  rcases a7 with a7 | a7
  · exact a7
  · have := c1 rfl j a2 a4 a6
    rw [a5] at this
    omega
end BF
