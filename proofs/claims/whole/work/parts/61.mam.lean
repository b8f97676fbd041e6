/-! pure rows: the reference: amount and bottleneck -/
theorem nI_and (a b : Nat) : nI a &&& nI b = nI (a &&& b) := by
  apply Int32.toBitVec_inj.1
  show BitVec.ofNat 32 a &&& BitVec.ofNat 32 b = BitVec.ofNat 32 (a &&& b)
  apply BitVec.eq_of_getLsbD_eq
  intro i hi
  simp [hi]
theorem nI_tb : ∀ s, s < 256 → ∀ v, v < 8 → (((nI s >>> (nI v &&& 31)) &&& 1 = 1) ↔ s.testBit v = true) := by decide +kernel
theorem nI_tz : ∀ s, s < 256 → ∀ v, v < 8 → (((nI s >>> (nI v &&& 31)) &&& 1 = 0) ↔ s.testBit v = false) := by decide +kernel
/-- the set of a mask -/
def ms (s : Nat) (v : Nat) : Int := if s.testBit v = true then 1 else 0
theorem ms01 (s v : Nat) : ms s v = 0 ∨ ms s v = 1 := by unfold ms; split; exact Or.inr rfl; exact Or.inl rfl
theorem ms1 (s v : Nat) : ms s v = 1 ↔ s.testBit v = true := by
  unfold ms
  split
  · rename_i h; exact ⟨fun _ => h, fun _ => rfl⟩
  · rename_i h; exact ⟨fun q => by omega, fun q => absurd q h⟩
theorem ms0 (s v : Nat) : ms s v = 0 ↔ s.testBit v = false := by
  unfold ms
  split
  · rename_i h; rw [h]; exact ⟨fun q => by omega, fun q => by cases q⟩
  · rename_i h; exact ⟨fun _ => by simpa using h, fun _ => rfl⟩
section BOT
variable {n : Nat} {fr to : Nat → Nat} {cp cs sp : Nat → Int}
theorem p_amountM (hV : md_V n fr to cp cs) (hsp : ∀ v, v < 8 → -31 ≤ sp v ∧ sp v ≤ 31) {σ : fl_St} (hN : md_N σ n fr to cp cs sp) :
    ∃ (r : Int32) (σ' : fl_St), f_X3_amount σ = some (r, σ') ∧ md_N σ' n fr to cp cs sp ∧ am_I n fr to cp sp r.toInt := by
  obtain ⟨r, σ1, b1, b2, ex, s, p1, p2, p3, p4, p5, p6, p7, p8⟩ := p_fillM hV hsp hN
  refine ⟨r, σ1, by unfold f_X3_amount; rw [b1, fl_b2s], b2, ?_⟩
  obtain ⟨m1, m2⟩ := am_eq hV.2.1 p2 p4 p5 p6 p7 p8
  have hb : fl_Bd n cp (rv σ1 5) := fun a ha => by
    refine ⟨(p1 a ha).1, ?_⟩
    by_cases c : cp a = -1
    · exact Or.inl c
    · right
      have := (p1 a ha).2.1
      unfold cM at this
      rw [if_neg c] at this
      exact this
  rw [p3]
  exact ⟨⟨s, m1, m2⟩, fun t ht => am_le hV.2.1 hb p2 ht⟩
/-- what the reference reckons for a mask -/
def cv (n : Nat) (fr to : Nat → Nat) (cp sp : Nat → Int) (s : Nat) : Int :=
  fl_S 8 (fun v => if ms s v = 1 then (if sp v < 0 then -sp v else 0) else (if 0 < sp v then sp v else 0)) + fl_S n (fun a => if ms s (fr a) = 1 ∧ ms s (to a) = 0 then cM cp a else 0)
theorem cv_ok {s : Nat} (h : cu_ok n fr to cp (ms s)) : cv n fr to cp sp s = cu_v n fr to cp sp (ms s) := by
  unfold cv cu_v
  congr 1
  refine fl_S_congr (fun a ha => ?_)
  by_cases c : ms s (fr a) = 1 ∧ ms s (to a) = 0
  · rw [if_pos c, if_pos c]
    unfold cM
    rw [if_neg (h.2 a ha c.1 c.2)]
  · rw [if_neg c, if_neg c]
theorem cv_nn (hc : ∀ a, a < n → -1 ≤ cp a) (s : Nat) : ∀ a, a < n → 0 ≤ (if ms s (fr a) = 1 ∧ ms s (to a) = 0 then cM cp a else 0) := by
  intro a ha
  have := hc a ha
  split
  · unfold cM; split <;> omega
  · omega
theorem cv_bad (hc : ∀ a, a < n → -1 ≤ cp a) {s : Nat} (h : ¬ cu_ok n fr to cp (ms s)) : 1000000 ≤ cv n fr to cp sp s := by
  have : ∃ a, a < n ∧ ms s (fr a) = 1 ∧ ms s (to a) = 0 ∧ cp a = -1 := Classical.byContradiction fun q => h ⟨ms01 s, fun a ha q1 q2 q3 => q ⟨a, ha, q1, q2, q3⟩⟩
  obtain ⟨a, ha, q1, q2, q3⟩ := this
  have h1 : fl_S n (fun i => if i = a then (fun b => if ms s (fr b) = 1 ∧ ms s (to b) = 0 then cM cp b else 0) i else 0) ≤ fl_S n (fun b => if ms s (fr b) = 1 ∧ ms s (to b) = 0 then cM cp b else 0) := fl_S_le (fun i hi => by
    by_cases e : i = a
    · rw [if_pos e]; exact Int.le_refl _
    · rw [if_neg e]; exact cv_nn hc s i hi)
  rw [fl_S_pick ha] at h1
  have h1 : (if ms s (fr a) = 1 ∧ ms s (to a) = 0 then cM cp a else 0) ≤ fl_S n (fun b => if ms s (fr b) = 1 ∧ ms s (to b) = 0 then cM cp b else 0) := h1
  rw [if_pos ⟨q1, q2⟩] at h1
  unfold cM at h1
  rw [if_pos q3] at h1
  have h2 : 0 ≤ fl_S 8 (fun v => if ms s v = 1 then (if sp v < 0 then -sp v else 0) else (if 0 < sp v then sp v else 0)) := fl_S_nonneg (fun v _ => by split <;> split <;> omega)
  unfold cv
  unfold cM
  omega
theorem cv_small (hn : n ≤ 20) (hc : ∀ a, a < n → -1 ≤ cp a ∧ cp a ≤ 30) (hsp : ∀ v, v < 8 → -31 ≤ sp v ∧ sp v ≤ 31) {s : Nat} (h : cu_ok n fr to cp (ms s)) : 0 ≤ cv n fr to cp sp s ∧ cv n fr to cp sp s ≤ 10000 := by
  rw [cv_ok h]
  unfold cu_v
  have h1 : fl_S 8 (fun v => if ms s v = 1 then (if sp v < 0 then -sp v else 0) else (if 0 < sp v then sp v else 0)) ≤ fl_S 8 (fun _ => 31) := fl_S_le (fun v hv => by have := hsp v hv; split <;> split <;> omega)
  have h2 : fl_S n (fun a => if ms s (fr a) = 1 ∧ ms s (to a) = 0 then cp a else 0) ≤ fl_S n (fun _ => 30) := fl_S_le (fun a ha => by have := hc a ha; split <;> omega)
  have h3 : 0 ≤ fl_S 8 (fun v => if ms s v = 1 then (if sp v < 0 then -sp v else 0) else (if 0 < sp v then sp v else 0)) := fl_S_nonneg (fun v _ => by split <;> split <;> omega)
  have h4 : 0 ≤ fl_S n (fun a => if ms s (fr a) = 1 ∧ ms s (to a) = 0 then cp a else 0) := fl_S_nonneg (fun a ha => by
    split
    · rename_i q
      have := hc a ha
      have := h.2 a ha q.1 q.2
      omega
    · omega)
  rw [fl_S_cst] at h1 h2
  constructor <;> omega
theorem p_bo20 {σ : fl_St} (hsp : ∀ v, v < 8 → -31 ≤ sp v ∧ sp v ≤ 31) (h4 : ∀ v, v < 8 → rv σ 4 v = sp v) {s : Nat} (hs : s < 256) (y1 y2 : Int32) :
    ∀ (F i : Nat) (x4 : Int32), i ≤ 8 → 8 - i < F → x4.toInt = fl_S i (fun v => if ms s v = 1 then (if sp v < 0 then -sp v else 0) else (if 0 < sp v then sp v else 0)) → 0 ≤ x4.toInt → x4.toInt ≤ 31 * (i : Int) →
      ∃ r : Int32, f_X3_bottleneck_l20 y1 y2 (nI s) σ F x4 (nI i) = some r ∧ r.toInt = fl_S 8 (fun v => if ms s v = 1 then (if sp v < 0 then -sp v else 0) else (if 0 < sp v then sp v else 0)) ∧ 0 ≤ r.toInt ∧ r.toInt ≤ 248 := by
  intro F
  induction F with
  | zero => intro i x4 h1 h2; omega
  | succ F ih =>
    intro i x4 h1 h2 hx b1 b2
    by_cases c : i = 8
    · subst c
      exact ⟨x4, by rw [f_X3_bottleneck_l20]; rfl, hx, b1, by omega⟩
    · have hi : i < 8 := by omega
      have hsi := hsp i hi
      have s4 : (σ 4 i).toInt = sp i := h4 i hi
      have z : (0 : Int32).toInt = 0 := by decide
      obtain ⟨y, ey, hy⟩ : ∃ y : Int32, f_X3_bottleneck_l20 y1 y2 (nI s) σ (F + 1) x4 (nI i) = f_X3_bottleneck_l20 y1 y2 (nI s) σ F (x4 + y) (nI (i + 1)) ∧ y.toInt = if ms s i = 1 then (if sp i < 0 then -sp i else 0) else (if 0 < sp i then sp i else 0) := by
        rw [f_X3_bottleneck_l20, if_neg (nI_8 hi), nI_1, fl_rd_n hi (by omega)]
        by_cases q : s.testBit i = true
        · rw [if_pos ((nI_tb s hs i hi).mpr q), fl_bs, if_neg (by decide), if_neg (by decide), fl_bs, if_pos ((ms1 s i).mpr q)]
          by_cases q2 : sp i < 0
          · rw [if_neg (by rw [i_le, s4, z]; omega), fl_bs, fl_bs, if_pos q2]
            exact ⟨_, rfl, by rw [i_neg (by rw [s4]; omega), s4]⟩
          · rw [if_pos (by rw [i_le, s4, z]; omega), fl_bs, if_neg q2]
            exact ⟨_, rfl, z⟩
        · rw [if_neg (fun h => q ((nI_tb s hs i hi).mp h)), fl_bs, if_pos rfl, fl_bs, if_neg (fun h => q ((ms1 s i).mp h))]
          by_cases q2 : 0 < sp i
          · rw [if_neg (by rw [i_le, s4, z]; omega), fl_bs, fl_bs, if_pos q2]
            exact ⟨_, rfl, s4⟩
          · rw [if_pos (by rw [i_le, s4, z]; omega), if_pos rfl, fl_bs, if_neg q2]
            exact ⟨_, rfl, z⟩
      rw [ey]
      have hy2 : 0 ≤ y.toInt ∧ y.toInt ≤ 31 := by rw [hy]; split <;> split <;> omega
      have e1 : (x4 + y).toInt = x4.toInt + y.toInt := i_add (by omega) (by omega)
      refine ih (i + 1) _ (by omega) (by omega) ?_ (by omega) (by omega)
      rw [e1, hx, hy]; rfl
theorem p_bo110 (hV : md_V n fr to cp cs) {σ : fl_St} (hN : md_N σ n fr to cp cs sp) {s : Nat} (hs : s < 256) (y1 y2 : Int32) {A : Int} (hA : 0 ≤ A ∧ A ≤ 248) :
    ∀ (F i : Nat) (x4 : Int32), i ≤ n → n - i < F → x4.toInt = A + fl_S i (fun a => if ms s (fr a) = 1 ∧ ms s (to a) = 0 then cM cp a else 0) → 0 ≤ x4.toInt → x4.toInt ≤ 248 + 1000000 * (i : Int) →
      ∃ r : Int32, f_X3_bottleneck_l110 y1 y2 (nI s) σ F x4 (nI i) = some r ∧ r.toInt = A + fl_S n (fun a => if ms s (fr a) = 1 ∧ ms s (to a) = 0 then cM cp a else 0) := by
  have hn := hV.1
  intro F
  induction F with
  | zero => intro i x4 h1 h2; omega
  | succ F ih =>
    intro i x4 h1 h2 hx b1 b2
    by_cases c : i = n
    · subst c
      exact ⟨x4, by rw [f_X3_bottleneck_l110, hN.1, if_pos (nI_le (Nat.le_refl _) (by omega))], hx⟩
    · have hi : i < n := by omega
      obtain ⟨q0, q1, q2, -⟩ := hN.2.1 i hi
      obtain ⟨a1, a2, -⟩ := hV.2.1 i hi
      have hcm : 0 ≤ cM cp i ∧ cM cp i ≤ 1000000 := by have := (hV.2.2 i hi).1; unfold cM; split <;> omega
      have z : (0 : Int32).toInt = 0 := by decide
      obtain ⟨y, ey, hy⟩ : ∃ y : Int32, f_X3_bottleneck_l110 y1 y2 (nI s) σ (F + 1) x4 (nI i) = f_X3_bottleneck_l110 y1 y2 (nI s) σ F (x4 + y) (nI (i + 1)) ∧ y.toInt = if ms s (fr i) = 1 ∧ ms s (to i) = 0 then cM cp i else 0 := by
        rw [f_X3_bottleneck_l110, hN.1, if_neg (nI_ge hi (by omega)), nI_1, fl_rd_n (by omega) (by omega), fl_bs, q0, fl_rd_n (by omega) (by omega), fl_bs, q1, fl_rd_n (by omega) (by omega), fl_bs]
        by_cases c1 : s.testBit (fr i) = true
        · rw [if_pos ((nI_tb s hs _ a1).mpr c1)]
          by_cases c2 : s.testBit (to i) = false
          · rw [if_pos ((nI_tz s hs _ a2).mpr c2), fl_bs, if_neg (by decide), fl_bs, if_pos ⟨(ms1 _ _).mpr c1, (ms0 _ _).mpr c2⟩]
            exact ⟨_, rfl, q2⟩
          · rw [if_neg (fun h => c2 ((nI_tz s hs _ a2).mp h)), fl_bs, if_pos rfl, fl_bs, if_neg (fun h => c2 ((ms0 _ _).mp h.2))]
            exact ⟨_, rfl, z⟩
        · rw [if_neg (fun h => c1 ((nI_tb s hs _ a1).mp h)), fl_bs, if_pos rfl, fl_bs, if_neg (fun h => c1 ((ms1 _ _).mp h.1))]
          exact ⟨_, rfl, z⟩
      rw [ey]
      have hy2 : 0 ≤ y.toInt ∧ y.toInt ≤ 1000000 := by rw [hy]; split <;> omega
      have e1 : (x4 + y).toInt = x4.toInt + y.toInt := i_add (by omega) (by omega)
      refine ih (i + 1) _ (by omega) (by omega) ?_ (by omega) (by omega)
      rw [e1, hx, hy, fl_S_s]; omega
end BOT
