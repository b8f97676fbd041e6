/-! pure rows: fillLightArcs, countExcess -/
def cU (cp : Nat → Int) (a : Nat) : Int := if cp a = -1 then 1680 else cp a
def fl0 (fr to : Nat → Nat) (cp g d : Nat → Int) (a : Nat) : Int := if cp a ≠ -1 ∧ d (fr a) + g a < d (to a) then cp a else 0
section FILL
variable {n : Nat} {fr to : Nat → Nat} {cp cs sp g : Nat → Int}
theorem p_fill_in (hV : fl_V n fr to cp cs sp) (hg : ∀ a, a < n → -50461 ≤ g a ∧ g a ≤ 50461) {d : Nat → Int} (hd : ∀ v, v < 8 → -30000000 ≤ d v ∧ d v ≤ 0) :
    ∀ (f i : Nat) (σ : fl_St), i ≤ n → n - i < f → cl_N σ n fr to cp cs sp → cl_L σ n fr to (lk_w g) → rv σ 10 = d →
      (∀ a, a < i → rv σ 8 (2 * a) = cU cp a - fl0 fr to cp g d a ∧ rv σ 8 (2 * a + 1) = fl0 fr to cp g d a) →
      ∃ σ', f_X1_fillLightArcs_l2 f (nI i) σ = some σ' ∧ (∀ k, k ≠ 8 → σ' k = σ k) ∧ ∀ a, a < n → rv σ' 8 (2 * a) = cU cp a - fl0 fr to cp g d a ∧ rv σ' 8 (2 * a + 1) = fl0 fr to cp g d a := by
  intro f
  induction f with
  | zero => intro i σ h1 h2; omega
  | succ f ih =>
    intro i σ h1 h2 hN hl hdd hz
    have hn := hV.1
    by_cases c : i = n
    · subst c
      exact ⟨σ, by rw [f_X1_fillLightArcs_l2, hN.1, if_pos (nI_le (Nat.le_refl _) (by omega))], fun _ _ => rfl, hz⟩
    · have hlt : i < n := by omega
      obtain ⟨a1, a2, a3⟩ := hV.2.1 i hlt
      obtain ⟨⟨c1, c2⟩, -, -⟩ := hV.2.2.1 i hlt
      obtain ⟨q0, q1, q2, q3⟩ := hN.2.1 i hlt
      have hgi := hg i hlt
      have d1 := hd _ a1
      have d2 := hd _ a2
      have e1 : rv σ 10 (fr i) = d (fr i) := by rw [hdd]
      have e2 : rv σ 10 (to i) = d (to i) := by rw [hdd]
      have hs := p_isShortcut hn hV.2.1 hl (j := 2 * i) (by omega) (by rw [lk_t0, lk_w0]; show _ ≤ rv σ 10 (fr i) + g i; omega) (by rw [lk_t0, lk_w0]; show rv σ 10 (fr i) + g i ≤ _; omega)
      rw [lk_t0, lk_h0, lk_w0] at hs
      -- the two numbers that are written
      obtain ⟨A, B, hA, hB, hf⟩ : ∃ A B : Int32, A.toInt = cU cp i - fl0 fr to cp g d i ∧ B.toInt = fl0 fr to cp g d i ∧
          f_X1_fillLightArcs_l2 (f + 1) (nI i) σ = f_X1_fillLightArcs_l2 f (nI (i + 1)) (st (st σ 8 (2 * i) A) 8 (2 * i + 1) B) := by
        rw [f_X1_fillLightArcs_l2, hN.1, if_neg (nI_ge hlt (by omega)), nI_21, nI_2, nI_1, fl_rd_n (by omega) (by omega), fl_bs]
        by_cases cc : cp i = -1
        · refine ⟨1680 - 0, 0, ?_, ?_, ?_⟩
          · unfold cU fl0
            rw [if_pos cc, if_neg (fun q => q.1 cc)]
            decide
          · unfold fl0
            rw [if_neg (fun q => q.1 cc)]
            rfl
          · rw [if_pos ((i_m1 q2).mpr cc), fl_bs, if_pos rfl, fl_bs, if_pos rfl, fl_bs, fl_wr_n (by omega) (by omega), fl_bs, fl_wr_n (by omega) (by omega), fl_bs]
        · rw [if_neg (fun q => cc ((i_m1 q2).mp q)), fl_bs, if_neg (by decide), fl_bs, fl_bs, if_neg (by decide)]
          by_cases c3 : d (fr i) + g i < d (to i)
          · have hs1 : f_X1_isShortcut (nI (2 * i)) σ = some 1 := by rw [hs, if_pos (by show rv σ 10 (fr i) + g i < rv σ 10 (to i); omega)]
            rw [hs1, fl_bs]
            refine ⟨σ 2 i - σ 2 i, σ 2 i, ?_, ?_, ?_⟩
            · rw [i_sub (by omega) (by omega)]
              unfold cU fl0
              rw [if_neg cc, if_pos ⟨cc, c3⟩]
              omega
            · unfold fl0
              rw [if_pos ⟨cc, c3⟩, q2]
            · rw [if_neg (by decide), fl_bs, fl_wr_n (by omega) (by omega), fl_bs, fl_wr_n (by omega) (by omega), fl_bs]
          · have hs1 : f_X1_isShortcut (nI (2 * i)) σ = some 0 := by rw [hs, if_neg (by show ¬ rv σ 10 (fr i) + g i < rv σ 10 (to i); omega)]
            rw [hs1, fl_bs]
            refine ⟨σ 2 i - 0, 0, ?_, ?_, ?_⟩
            · have z : (0 : Int32).toInt = 0 := by decide
              rw [i_sub (by omega) (by omega)]
              unfold cU fl0
              rw [if_neg cc, if_neg (fun q => c3 q.2)]
              omega
            · unfold fl0
              rw [if_neg (fun q => c3 q.2)]
              rfl
            · rw [if_pos rfl, fl_bs, fl_wr_n (by omega) (by omega), fl_bs, fl_wr_n (by omega) (by omega), fl_bs]
      rw [hf]
      have hk : ∀ k, k ≠ 8 → st (st σ 8 (2 * i) A) 8 (2 * i + 1) B k = σ k := fun k hk => by rw [st_k _ _ _ hk, st_k _ _ _ hk]
      obtain ⟨σ', z1, z2, z3⟩ := ih (i + 1) (st (st σ 8 (2 * i) A) 8 (2 * i + 1) B) (by omega) (by omega) (hN.mv (fun k q => hk k (by omega))) (hl.mv (hk 5 (by decide)) (hk 6 (by decide)) (hk 7 (by decide)) (hk 12 (by decide))) (by rw [rv_sk _ _ _ (by decide), rv_sk _ _ _ (by decide)]; exact hdd) (by
        intro a ha
        rw [rv_st, rv_st]
        by_cases c5 : a = i
        · subst c5
          rw [fl_up_n _ _ (by omega), fl_up_s, fl_up_s]
          exact ⟨hA, hB⟩
        · rw [fl_up_n _ _ (by omega), fl_up_n _ _ (by omega), fl_up_n _ _ (by omega), fl_up_n _ _ (by omega)]
          exact hz a (by omega))
      exact ⟨σ', z1, fun k q => (z2 k q).trans (hk k q), z3⟩
theorem p_fill (hV : fl_V n fr to cp cs sp) (hg : ∀ a, a < n → -50461 ≤ g a ∧ g a ≤ 50461) {σ : fl_St} (hd : ∀ v, v < 8 → -30000000 ≤ rv σ 10 v ∧ rv σ 10 v ≤ 0) (hN : cl_N σ n fr to cp cs sp) (hl : cl_L σ n fr to (lk_w g)) :
    ∃ σ', f_X1_fillLightArcs σ = some σ' ∧ (∀ k, k ≠ 8 → σ' k = σ k) ∧ ∀ a, a < n → rv σ' 8 (2 * a) = cU cp a - fl0 fr to cp g (rv σ 10) a ∧ rv σ' 8 (2 * a + 1) = fl0 fr to cp g (rv σ 10) a := by
  obtain ⟨σ', e1, e2, e3⟩ := p_fill_in hV hg hd fl_N 0 σ (by omega) (by have := hV.1; unfold fl_N; omega) hN hl rfl (fun a ha => by omega)
  refine ⟨σ', ?_, e2, e3⟩
  unfold f_X1_fillLightArcs
  rw [show f_X1_fillLightArcs_l2 fl_N 0 σ = some σ' from e1, fl_bs]
theorem p_count_z (hV : fl_V n fr to cp cs sp) : ∀ (f i : Nat) (σ : fl_St), i ≤ 8 → 8 - i < f → cl_N σ n fr to cp cs sp → (∀ v, v < i → rv σ 9 v = sp v) → ∃ σ', f_X1_countExcess_l2 f (nI i) σ = some σ' ∧ (∀ k, k ≠ 9 → σ' k = σ k) ∧ ∀ v, v < 8 → rv σ' 9 v = sp v := by
  intro f
  induction f with
  | zero => intro i σ h1 h2; omega
  | succ f ih =>
    intro i σ h1 h2 hN hz
    by_cases c : i = 8
    · subst c
      exact ⟨σ, by rw [f_X1_countExcess_l2]; rfl, fun _ _ => rfl, hz⟩
    · rw [f_X1_countExcess_l2, if_neg (nI_8 (by omega)), fl_rd_n (by omega) (by omega), fl_bs, fl_wr_n (by omega) (by omega), fl_bs, nI_1]
      have hk : ∀ k, k ≠ 9 → st σ 9 i (σ 4 i) k = σ k := fun k hk => st_k _ _ _ hk
      obtain ⟨σ', e1, e2, e3⟩ := ih (i + 1) (st σ 9 i (σ 4 i)) (by omega) (by omega) (hN.mv (fun k q => hk k (by omega))) (fun v hv => by
        rw [rv_st]
        by_cases c5 : v = i
        · subst c5; rw [fl_up_s]; exact hN.2.2 v (by omega)
        · rw [fl_up_n _ _ c5]; exact hz v (by omega))
      exact ⟨σ', e1, fun k q => (e2 k q).trans (hk k q), e3⟩
theorem fl_div_s (n : Nat) (fr to : Nat → Nat) (x : Nat → Int) (v : Nat) : fl_div (n + 1) fr to x v = fl_div n fr to x v + ((if fr n = v then x n else 0) - (if to n = v then x n else 0)) := rfl
theorem fl_div_b {fr to : Nat → Nat} {x : Nat → Int} {K : Int} (hK : 0 ≤ K) (v : Nat) : ∀ n, (∀ a, a < n → 0 ≤ x a ∧ x a ≤ K) → -(K * n) ≤ fl_div n fr to x v ∧ fl_div n fr to x v ≤ K * n := by
  intro n
  induction n with
  | zero => intro _; simp [fl_div, fl_S]
  | succ n ih =>
    intro h
    have h1 := ih (fun a ha => h a (by omega))
    have h2 := h n (by omega)
    rw [fl_div_s]
    have e : K * ((n + 1 : Nat) : Int) = K * n + K := by rw [Int.natCast_add, Int.mul_add]; simp
    rw [e]
    split <;> split <;> constructor <;> omega
theorem p_count_in (hV : fl_V n fr to cp cs sp) {x : Nat → Int} (hx : ∀ a, a < n → 0 ≤ x a ∧ x a ≤ 30) :
    ∀ (f i : Nat) (σ : fl_St), i ≤ n → n - i < f → cl_N σ n fr to cp cs sp → (∀ a, a < n → rv σ 8 (2 * a + 1) = x a) → (∀ v, v < 8 → rv σ 9 v = sp v - fl_div i fr to x v) →
      ∃ σ', f_X1_countExcess_l31 f (nI i) σ = some σ' ∧ (∀ k, k ≠ 9 → σ' k = σ k) ∧ ∀ v, v < 8 → rv σ' 9 v = sp v - fl_div n fr to x v := by
  intro f
  induction f with
  | zero => intro i σ h1 h2; omega
  | succ f ih =>
    intro i σ h1 h2 hN h8 hz
    have hn := hV.1
    by_cases c : i = n
    · subst c
      exact ⟨σ, by rw [f_X1_countExcess_l31, hN.1, if_pos (nI_le (Nat.le_refl _) (by omega))], fun _ _ => rfl, hz⟩
    · have hlt : i < n := by omega
      obtain ⟨a1, a2, a3⟩ := hV.2.1 i hlt
      obtain ⟨q0, q1, -, -⟩ := hN.2.1 i hlt
      have hb : ∀ v, v < 8 → -1000 ≤ rv σ 9 v ∧ rv σ 9 v ≤ 1000 := by
        intro v hv
        have := fl_div_b (fr := fr) (to := to) (x := x) (K := 30) (by decide) v i (fun a ha => hx a (by omega))
        have h2 := hV.2.2.2 v hv
        rw [hz v hv]
        have h3 : (30 : Int) * (i : Int) ≤ 30 * 20 := Int.mul_le_mul_of_nonneg_left (by omega) (by decide)
        omega
      have hxi := hx i hlt
      have h8i : (σ 8 (2 * i + 1)).toInt = x i := h8 i hlt
      rw [f_X1_countExcess_l31, hN.1, if_neg (nI_ge hlt (by omega)), nI_21, nI_1, fl_rd_n (by omega) (by omega), fl_bs, q0, fl_rd_n a1 (by omega), fl_bs, fl_rd_n (by omega) (by omega), fl_bs, fl_wr_n a1 (by omega), fl_bs, fl_rd_n (by omega) (by omega), fl_bs, st_k _ _ _ (by decide), q1, fl_rd_n a2 (by omega), fl_bs, fl_rd_n (by omega) (by omega), fl_bs, fl_wr_n a2 (by omega), fl_bs]
      rw [st_k (k := 9) (k' := 8) _ _ _ (by decide), st_j _ _ _ a3.symm]
      have hk : ∀ k, k ≠ 9 → st (st σ 9 (fr i) (σ 9 (fr i) - σ 8 (2 * i + 1))) 9 (to i) (σ 9 (to i) + σ 8 (2 * i + 1)) k = σ k := fun k hk => by rw [st_k _ _ _ hk, st_k _ _ _ hk]
      have b1 := hb _ a1
      have b2 := hb _ a2
      obtain ⟨σ', z1, z2, z3⟩ := ih (i + 1) _ (by omega) (by omega) (hN.mv (fun k q => hk k (by omega))) (fun a ha => by rw [rv_sk _ _ _ (by decide), rv_sk _ _ _ (by decide)]; exact h8 a ha) (by
        intro v hv
        rw [fl_div_s, rv_st, rv_st]
        have hzv := hz v hv
        have hs1 : (σ 9 (fr i) - σ 8 (2 * i + 1)).toInt = rv σ 9 (fr i) - x i := by
          rw [i_sub (by rw [h8i]; show _ ≤ rv σ 9 (fr i) - x i; omega) (by rw [h8i]; show rv σ 9 (fr i) - x i ≤ _; omega), h8i]
        have hs2 : (σ 9 (to i) + σ 8 (2 * i + 1)).toInt = rv σ 9 (to i) + x i := by
          rw [i_add (by rw [h8i]; show _ ≤ rv σ 9 (to i) + x i; omega) (by rw [h8i]; show rv σ 9 (to i) + x i ≤ _; omega), h8i]
        rw [hs1, hs2]
        by_cases e1 : v = to i
        · subst e1
          rw [fl_up_s, if_neg a3, if_pos rfl]
          omega
        · rw [fl_up_n _ _ e1, if_neg (c := to i = v) (fun q => e1 q.symm)]
          by_cases e2 : v = fr i
          · subst e2
            rw [fl_up_s, if_pos rfl]
            omega
          · rw [fl_up_n _ _ e2, if_neg (c := fr i = v) (fun q => e2 q.symm)]
            omega)
      exact ⟨σ', z1, fun k q => (z2 k q).trans (hk k q), z3⟩
theorem p_count (hV : fl_V n fr to cp cs sp) {x : Nat → Int} (hx : ∀ a, a < n → 0 ≤ x a ∧ x a ≤ 30) {σ : fl_St} (hN : cl_N σ n fr to cp cs sp) (h8 : ∀ a, a < n → rv σ 8 (2 * a + 1) = x a) :
    ∃ σ', f_X1_countExcess σ = some σ' ∧ (∀ k, k ≠ 9 → σ' k = σ k) ∧ ∀ v, v < 8 → rv σ' 9 v = sp v - fl_div n fr to x v := by
  obtain ⟨σ1, e1, e2, e3⟩ := p_count_z hV fl_N 0 σ (by omega) (by unfold fl_N; omega) hN (fun v hv => by omega)
  obtain ⟨σ', z1, z2, z3⟩ := p_count_in hV hx fl_N 0 σ1 (by omega) (by have := hV.1; unfold fl_N; omega) (hN.mv (fun k q => e2 k (by omega))) (fun a ha => by show (σ1 8 _).toInt = _; rw [e2 8 (by decide)]; exact h8 a ha) (fun v hv => by rw [e3 v hv]; simp [fl_div, fl_S])
  refine ⟨σ', ?_, fun k q => (z2 k q).trans (e2 k q), z3⟩
  unfold f_X1_countExcess
  rw [show f_X1_countExcess_l2 fl_N 0 σ = some σ1 from e1, fl_bs, show f_X1_countExcess_l31 fl_N 0 σ1 = some σ' from z1, fl_bs]
end FILL
