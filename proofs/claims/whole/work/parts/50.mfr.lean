/-! pure rows: the reference: its network, and findRound -/
def cM (cp : Nat → Int) (a : Nat) : Int := if cp a = -1 then 1000000 else cp a
def md_N (σ : fl_St) (n : Nat) (fr to : Nat → Nat) (cp cs sp : Nat → Int) : Prop :=
  σ 13 0 = nI n ∧ (∀ a, a < n → σ 0 a = nI (fr a) ∧ σ 1 a = nI (to a) ∧ (σ 2 a).toInt = cM cp a ∧ (σ 3 a).toInt = cs a) ∧ ∀ v, v < 8 → (σ 4 v).toInt = sp v
theorem md_N.mv {σ σ' : fl_St} {n : Nat} {fr to : Nat → Nat} {cp cs sp : Nat → Int} (h : md_N σ n fr to cp cs sp) (e : ∀ k, k < 5 → σ' k = σ k) (e13 : σ' 13 0 = σ 13 0) : md_N σ' n fr to cp cs sp := by
  unfold md_N
  rw [e 0 (by omega), e 1 (by omega), e 2 (by omega), e 3 (by omega), e 4 (by omega), e13]
  exact h
/-- the room of a link -/
def rr (C f : Nat → Int) (j : Nat) : Int := if j % 2 = 0 then C (j / 2) - f (j / 2) else f (j / 2)
theorem rr_0 (C f : Nat → Int) (a : Nat) : rr C f (2 * a) = C a - f a := by unfold rr; rw [if_pos (by omega), show 2 * a / 2 = a by omega]
theorem rr_1 (C f : Nat → Int) (a : Nat) : rr C f (2 * a + 1) = f a := by unfold rr; rw [if_neg (by omega), show (2 * a + 1) / 2 = a by omega]
/-- which links findRound looks at -/
def fr_op (x1 : Int32) (cp f : Nat → Int) (j : Nat) : Prop := (x1 = 0 → 0 < rr (cM cp) f j) ∧ (x1 ≠ 0 → j % 2 = 0 ∧ cp (j / 2) = -1)
def bd (b : Int) : Int := if b = -1000004 then -1 else if 0 ≤ b then 2 * b else 2 * (-1 - b) + 1
theorem nI_neg {k : Nat} (h : k < 1000) : (-1 - nI k : Int32).toInt = -1 - (k : Int) := by
  have e : (-1 : Int32).toInt = -1 := by decide
  have e2 := nI_t (show k < 1000000 by omega)
  rw [i_sub (by rw [e, e2]; omega) (by rw [e, e2]; omega), e, e2]
theorem bd_p {k : Nat} (h : k < 1000) : bd (nI k).toInt = ((2 * k : Nat) : Int) := by
  rw [nI_t (by omega)]
  unfold bd
  rw [if_neg (by omega), if_pos (by omega)]
  omega
theorem bd_m {k : Nat} (h : k < 1000) : bd (-1 - nI k : Int32).toInt = ((2 * k + 1 : Nat) : Int) := by
  rw [nI_neg h]
  unfold bd
  rw [if_neg (by omega), if_neg (by omega)]
  omega
abbrev ef (σ : fl_St) : Nat → Int := fun v => bd (rv σ 9 v)
theorem ef_st (σ : fl_St) (h : Nat) (x : Int32) : ef (st σ 9 h x) = fl_up (ef σ) h (bd x.toInt) := by
  funext v
  show bd (rv (st σ 9 h x) 9 v) = _
  rw [rv_st]
  by_cases e : v = h
  · rw [e, fl_up_s, fl_up_s]
  · rw [fl_up_n _ _ e, fl_up_n _ _ e]
theorem ef_sk (σ : fl_St) {k : Nat} (j : Nat) (x : Int32) (h : 9 ≠ k) : ef (st σ k j x) = ef σ := by
  funext v
  show bd (rv (st σ k j x) 9 v) = _
  rw [rv_sk _ _ _ h]
def la_R (w : Int32) (cg : Bool) (la : Nat) : Prop := (cg = false ∧ w = -1000004) ∨ (cg = true ∧ w = nI la)
def md_F (σ σ' : fl_St) : Prop := (∀ k, k ≠ 8 → k ≠ 9 → σ' k = σ k) ∧ ∀ j, 8 ≤ j → σ' 8 j = σ 8 j ∧ σ' 9 j = σ 9 j
theorem md_F.rf {σ : fl_St} : md_F σ σ := ⟨fun _ _ _ => rfl, fun _ _ => ⟨rfl, rfl⟩⟩
theorem md_F.tr {σ σ' σ'' : fl_St} (h : md_F σ σ') (h' : md_F σ' σ'') : md_F σ σ'' := ⟨fun k a b => (h'.1 k a b).trans (h.1 k a b), fun j hj => ⟨(h'.2 j hj).1.trans (h.2 j hj).1, (h'.2 j hj).2.trans (h.2 j hj).2⟩⟩
theorem md_F.N {σ σ' : fl_St} (h : md_F σ σ') {n : Nat} {fr to : Nat → Nat} {cp cs sp : Nat → Int} (hN : md_N σ n fr to cp cs sp) : md_N σ' n fr to cp cs sp := hN.mv (fun k hk => h.1 k (by omega) (by omega)) (by rw [h.1 13 (by decide) (by decide)])
theorem md_F.ss {σ : fl_St} {a b : Nat} {x y : Int32} (ha : a < 8) (hb : b < 8) : md_F σ (st (st σ 8 a x) 9 b y) := ⟨fun k h1 h2 => by rw [st_k _ _ _ h2, st_k _ _ _ h1], fun j hj => ⟨by rw [st_k _ _ _ (by decide), st_j _ _ _ (by omega)], by rw [st_j _ _ _ (by omega), st_k _ _ _ (by decide)]⟩⟩
/-- n arcs between 8 nodes, as the reference takes them -/
def md_V (n : Nat) (fr to : Nat → Nat) (cp cs : Nat → Int) : Prop := n ≤ 20 ∧ fl_Ar 8 n fr to ∧ ∀ a, a < n → (-1 ≤ cp a ∧ cp a ≤ 30) ∧ -60 ≤ cs a ∧ cs a ≤ 60
section FR
variable {n : Nat} {fr to : Nat → Nat} {cp cs sp : Nat → Int} {x1 : Int32} {f : Nat → Int} {r : Nat}
abbrev fr_I (n : Nat) (fr to : Nat → Nat) (cp cs f : Nat → Int) (x1 : Int32) (r i : Nat) (cg : Bool) (la T : Nat) (σ : fl_St) : Prop :=
  bf_I 8 (2 * n) (fr_op x1 cp f) (lk_tl fr to) (lk_hd fr to) (lk_w cs) 1000000000 60 (fun _ => 0) r i cg la T (rv σ 8) (ef σ)
theorem fr_bd {i la T : Nat} {cg : Bool} {σ : fl_St} (h : fr_I n fr to cp cs f x1 r i cg la T σ) (hT : T ≤ 1000) : ∀ v, v < 8 → -60000 ≤ rv σ 8 v ∧ rv σ 8 v ≤ 0 := by
  intro v hv
  obtain ⟨tm, rd, ch, ⟨g1, g2, g3, g4, g5⟩, -, -, gb⟩ := h
  have e1 : rv σ 8 v ≤ 0 := g2 v hv
  have := gb v hv (by omega)
  have e3 : (60 : Int) * T ≤ 60 * 1000 := Int.mul_le_mul_of_nonneg_left (by omega) (by decide)
  omega
theorem fr_up {k la T : Nat} {cg : Bool} {σ : fl_St} (hV : md_V n fr to cp cs) {j : Nat} (hj : j < 2 * n) (hT : T ≤ 900) (h : fr_I n fr to cp cs f x1 r j cg la T σ) (ho : fr_op x1 cp f j) {x y : Int32} (hx : x.toInt = rv σ 8 (lk_tl fr to j) + lk_w cs j) (hy : bd y.toInt = (j : Int)) (hlt : rv σ 8 (lk_tl fr to j) + lk_w cs j < rv σ 8 (lk_hd fr to j)) :
    fr_I n fr to cp cs f x1 r (j + 1) true (lk_hd fr to j) (T + 1) (st (st σ 8 (lk_hd fr to j) x) 9 (lk_hd fr to j) y) := by
  obtain ⟨k1, k2, k3⟩ := lk_in hV.2.1 hj
  have hw : -60 ≤ lk_w cs j ∧ lk_w cs j ≤ 60 := by
    have := hV.2.2 (j / 2) (by omega)
    unfold lk_w
    split <;> omega
  have hb := fr_bd h (by omega) _ k1
  have hB : (60 : Int) * ((T + 1 : Nat) : Int) ≤ 60 * 1000 := Int.mul_le_mul_of_nonneg_left (by omega) (by decide)
  have := bf_step (by decide) hj k1 k2 k3 hw (by omega) h ho (by omega) hlt
  unfold fr_I
  rw [ef_st, ef_sk _ _ _ (by decide), rv_sk _ _ _ (by decide), rv_st, hx, hy]
  exact this
theorem p_fr_step (hV : md_V n fr to cp cs) {k la T : Nat} {cg : Bool} {σ : fl_St} (hk : k < n) (hN : md_N σ n fr to cp cs sp) (h5 : rv σ 5 = f) (hT : T ≤ 800) (hI : fr_I n fr to cp cs f x1 r (2 * k) cg la T σ) {x2 : Int32} (hla : la_R x2 cg la) (x3 : Int32) (F : Nat) :
    ∃ (cg' : Bool) (la' : Nat) (w' : Int32) (σ' : fl_St), f_X3_findRound_l46 x1 x3 (F + 1) x2 (nI k) σ = f_X3_findRound_l46 x1 x3 F w' (nI (k + 1)) σ' ∧ md_F σ σ' ∧ la_R w' cg' la' ∧ fr_I n fr to cp cs f x1 r (2 * (k + 1)) cg' la' (T + 2) σ' := by
  have hn := hV.1
  obtain ⟨q0, q1, q2, q3⟩ := hN.2.1 k hk
  obtain ⟨a1, a2, a3⟩ := hV.2.1 k hk
  obtain ⟨⟨c1, c2⟩, c3, c4⟩ := hV.2.2 k hk
  have f5 : (σ 5 k).toInt = f k := by rw [← h5]
  have hM : (1000000 : Int32).toInt = 1000000 := by decide
  have z : (0 : Int32).toInt = 0 := by decide
  have hcm : cM cp k = 1000000 ↔ cp k = -1 := by unfold cM; split <;> omega
  rw [f_X3_findRound_l46, hN.1, if_neg (nI_ge hk (by omega)), nI_1]
  -- whether the arc is looked at forth
  have ht : ∃ t : Int32, (if x1 = 0 then ((fl_rd σ 5 36 (nI k)).bind fun v110 => (fl_rd σ 2 36 (nI k)).bind fun v113 => if v113 ≤ v110 then (some (0 : Int32)) else (some 1)) else ((fl_rd σ 2 36 (nI k)).bind fun v117 => if v117 = 1000000 then (some 1) else (some 0))) = some t ∧ (t = 0 ↔ ¬ fr_op x1 cp f (2 * k)) := by
    rw [fl_rd_n (by omega) (by omega), fl_bs, fl_rd_n (by omega) (by omega), fl_bs, fl_bs]
    unfold fr_op
    rw [rr_0, show 2 * k / 2 = k by omega]
    by_cases cx : x1 = 0
    · rw [if_pos cx]
      by_cases cc : cM cp k ≤ f k
      · exact ⟨0, by rw [if_pos (by rw [i_le, q2, f5]; exact cc)], fun _ q => by have := q.1 cx; omega, fun _ => rfl⟩
      · exact ⟨1, by rw [if_neg (by rw [i_le, q2, f5]; exact cc)], (fun q => absurd q (by decide)), fun q => absurd ⟨fun _ => by omega, fun h => absurd cx h⟩ q⟩
    · rw [if_neg cx]
      by_cases cc : cp k = -1
      · exact ⟨1, by rw [if_pos (by rw [i_eq, q2, hM]; exact hcm.mpr cc)], (fun q => absurd q (by decide)), fun q => absurd ⟨fun h => absurd h cx, fun _ => ⟨by omega, cc⟩⟩ q⟩
      · exact ⟨0, by rw [if_neg (by rw [i_eq, q2, hM]; exact fun h => cc (hcm.mp h))], fun _ q => cc (q.2 cx).2, fun _ => rfl⟩
  obtain ⟨t, et, ht⟩ := ht
  rw [et, fl_bs]
  have hb := fr_bd hI (by omega)
  have b1 := hb _ a1
  have b2 := hb _ a2
  have hsum : (σ 8 (fr k) + σ 3 k).toInt = rv σ 8 (fr k) + cs k := by
    rw [i_add (by rw [q3]; show _ ≤ rv σ 8 (fr k) + cs k; omega) (by rw [q3]; show rv σ 8 (fr k) + cs k ≤ _; omega), q3]
  -- forth
  have hph1 : ∃ (cg1 : Bool) (la1 : Nat) (w1 : Int32) (σ1 : fl_St), (if t = 0 then (some (x2, σ)) else ((fl_rd σ 0 36 (nI k)).bind fun v70 => (fl_rd σ 8 10 v70).bind fun v73 => (fl_rd σ 3 36 (nI k)).bind fun v76 => (fl_rd σ 1 36 (nI k)).bind fun v79 => (fl_rd σ 8 10 v79).bind fun v82 => if v82 ≤ (v73 + v76) then (some (x2, σ)) else ((fl_rd σ 1 36 (nI k)).bind fun v86 => (fl_rd σ 0 36 (nI k)).bind fun v89 => (fl_rd σ 8 10 v89).bind fun v92 => (fl_rd σ 3 36 (nI k)).bind fun v95 => (fl_wr σ 8 10 v86 (v92 + v95)).bind fun σ98 => (fl_rd σ98 1 36 (nI k)).bind fun v101 => (fl_wr σ98 9 10 v101 (nI k)).bind fun σ104 => (fl_rd σ104 1 36 (nI k)).bind fun v107 => some (v107, σ104)))) = some (w1, σ1) ∧
      md_F σ σ1 ∧ la_R w1 cg1 la1 ∧ fr_I n fr to cp cs f x1 r (2 * k + 1) cg1 la1 (T + 1) σ1 := by
    by_cases co : fr_op x1 cp f (2 * k) ∧ rv σ 8 (fr k) + cs k < rv σ 8 (to k)
    · rw [if_neg (fun q => ht.mp q co.1), fl_rd_n (by omega) (by omega), fl_bs, q0, fl_rd_n (by omega) (by omega), fl_bs, fl_rd_n (by omega) (by omega), fl_bs, fl_rd_n (by omega) (by omega), fl_bs, q1, fl_rd_n (by omega) (by omega), fl_bs, if_neg (by rw [i_le, hsum]; show ¬ rv σ 8 (to k) ≤ _; omega), fl_bs, fl_bs, fl_rd_n (by omega) (by omega), fl_bs, fl_bs, fl_wr_n (by omega) (by omega), fl_bs, fl_rd_n (by omega) (by omega), fl_bs, st_k _ _ _ (by decide), q1, fl_wr_n (by omega) (by omega), fl_bs, fl_rd_n (by omega) (by omega), fl_bs, st_k _ _ _ (by decide), st_k _ _ _ (by decide), q1]
      refine ⟨true, to k, _, _, rfl, md_F.ss (by omega) (by omega), Or.inr ⟨rfl, rfl⟩, ?_⟩
      have := fr_up (k := k) hV (by omega) (by omega) hI co.1 (x := σ 8 (fr k) + σ 3 k) (y := nI k) (by rw [hsum, lk_t0, lk_w0]) (bd_p (by omega)) (by rw [lk_t0, lk_h0, lk_w0]; exact co.2)
      rw [lk_h0] at this
      exact this
    · have hs := bf_skip (by decide) hI (fun q => co ⟨q.1, by have := q.2.2; rw [lk_t0, lk_h0, lk_w0] at this; exact this⟩)
      by_cases c0 : t = 0
      · rw [if_pos c0]
        exact ⟨cg, la, x2, σ, rfl, md_F.rf, hla, hs⟩
      · rw [if_neg c0, fl_rd_n (by omega) (by omega), fl_bs, q0, fl_rd_n (by omega) (by omega), fl_bs, fl_rd_n (by omega) (by omega), fl_bs, fl_rd_n (by omega) (by omega), fl_bs, q1, fl_rd_n (by omega) (by omega), fl_bs, if_pos (by
          rw [i_le, hsum]
          show rv σ 8 (to k) ≤ _
          have : fr_op x1 cp f (2 * k) := Classical.byContradiction fun q => c0 (ht.mpr q)
          have : ¬ rv σ 8 (fr k) + cs k < rv σ 8 (to k) := fun q => co ⟨this, q⟩
          omega)]
        exact ⟨cg, la, x2, σ, rfl, md_F.rf, hla, hs⟩
  obtain ⟨cg1, la1, w1, σ1, e1, F1, hla1, hI1⟩ := hph1
  rw [e1, fl_b2s]
  have N1 := F1.N hN
  obtain ⟨p0, p1, p2, p3⟩ := N1.2.1 k hk
  have hb := fr_bd hI1 (by omega)
  have b1 := hb _ a1
  have b2 := hb _ a2
  have hdif : (σ1 8 (to k) - σ1 3 k).toInt = rv σ1 8 (to k) - cs k := by
    rw [i_sub (by rw [p3]; show _ ≤ rv σ1 8 (to k) - cs k; omega) (by rw [p3]; show rv σ1 8 (to k) - cs k ≤ _; omega), p3]
  have g5 : (σ1 5 k).toInt = f k := by rw [F1.1 5 (by decide) (by decide)]; exact f5
  have hph2 : ∃ (cg2 : Bool) (la2 : Nat) (w2 : Int32) (σ2 : fl_St), (if x1 = 0 then ((fl_rd σ1 5 36 (nI k)).bind fun v26 => if v26 ≤ 0 then (some (w1, σ1)) else ((fl_rd σ1 1 36 (nI k)).bind fun v30 => (fl_rd σ1 8 10 v30).bind fun v33 => (fl_rd σ1 3 36 (nI k)).bind fun v36 => (fl_rd σ1 0 36 (nI k)).bind fun v39 => (fl_rd σ1 8 10 v39).bind fun v42 => if v42 ≤ (v33 - v36) then (some (w1, σ1)) else ((fl_rd σ1 0 36 (nI k)).bind fun v46 => (fl_rd σ1 1 36 (nI k)).bind fun v49 => (fl_rd σ1 8 10 v49).bind fun v52 => (fl_rd σ1 3 36 (nI k)).bind fun v55 => (fl_wr σ1 8 10 v46 (v52 - v55)).bind fun σ58 => (fl_rd σ58 0 36 (nI k)).bind fun v61 => (fl_wr σ58 9 10 v61 ((-1) - (nI k))).bind fun σ64 => (fl_rd σ64 0 36 (nI k)).bind fun v67 => some (v67, σ64)))) else (some (w1, σ1))) = some (w2, σ2) ∧
      md_F σ1 σ2 ∧ la_R w2 cg2 la2 ∧ fr_I n fr to cp cs f x1 r (2 * k + 1 + 1) cg2 la2 (T + 1 + 1) σ2 := by
    by_cases co : fr_op x1 cp f (2 * k + 1) ∧ rv σ1 8 (to k) - cs k < rv σ1 8 (fr k)
    · have cx : x1 = 0 := Classical.byContradiction fun q => by have := (co.1.2 q).1; omega
      have cf := co.1.1 cx
      rw [rr_1] at cf
      rw [if_pos cx, fl_rd_n (by omega) (by omega), fl_bs, if_neg (by rw [i_le, g5, z]; omega), fl_rd_n (by omega) (by omega), fl_bs, p1, fl_rd_n (by omega) (by omega), fl_bs, fl_rd_n (by omega) (by omega), fl_bs, fl_rd_n (by omega) (by omega), fl_bs, p0, fl_rd_n (by omega) (by omega), fl_bs, if_neg (by rw [i_le, hdif]; show ¬ rv σ1 8 (fr k) ≤ _; omega), fl_bs, fl_bs, fl_rd_n (by omega) (by omega), fl_bs, fl_bs, fl_wr_n (by omega) (by omega), fl_bs, fl_rd_n (by omega) (by omega), fl_bs, st_k _ _ _ (by decide), p0, fl_wr_n (by omega) (by omega), fl_bs, fl_rd_n (by omega) (by omega), fl_bs, st_k _ _ _ (by decide), st_k _ _ _ (by decide), p0]
      refine ⟨true, fr k, _, _, rfl, md_F.ss (by omega) (by omega), Or.inr ⟨rfl, rfl⟩, ?_⟩
      have := fr_up (k := k) hV (by omega) (by omega) hI1 co.1 (x := σ1 8 (to k) - σ1 3 k) (y := -1 - nI k) (by rw [hdif, lk_t1, lk_w1]; omega) (bd_m (by omega)) (by rw [lk_t1, lk_h1, lk_w1]; omega)
      rw [lk_h1] at this
      exact this
    · have hs := bf_skip (by decide) hI1 (fun q => co ⟨q.1, by have := q.2.2; rw [lk_t1, lk_h1, lk_w1] at this; omega⟩)
      by_cases cx : x1 = 0
      · rw [if_pos cx, fl_rd_n (by omega) (by omega), fl_bs]
        by_cases cf : f k ≤ 0
        · rw [if_pos (by rw [i_le, g5, z]; exact cf)]
          exact ⟨cg1, la1, w1, σ1, rfl, md_F.rf, hla1, hs⟩
        · rw [if_neg (by rw [i_le, g5, z]; exact cf), fl_rd_n (by omega) (by omega), fl_bs, p1, fl_rd_n (by omega) (by omega), fl_bs, fl_rd_n (by omega) (by omega), fl_bs, fl_rd_n (by omega) (by omega), fl_bs, p0, fl_rd_n (by omega) (by omega), fl_bs, if_pos (by
            rw [i_le, hdif]
            show rv σ1 8 (fr k) ≤ _
            have : fr_op x1 cp f (2 * k + 1) := ⟨fun _ => by rw [rr_1]; omega, fun h => absurd cx h⟩
            have : ¬ rv σ1 8 (to k) - cs k < rv σ1 8 (fr k) := fun q => co ⟨this, q⟩
            omega)]
          exact ⟨cg1, la1, w1, σ1, rfl, md_F.rf, hla1, hs⟩
      · rw [if_neg cx]
        exact ⟨cg1, la1, w1, σ1, rfl, md_F.rf, hla1, hs⟩
  obtain ⟨cg2, la2, w2, σ2, e2, F2, hla2, hI2⟩ := hph2
  rw [e2, fl_b2s]
  exact ⟨cg2, la2, w2, σ2, rfl, F1.tr F2, hla2, hI2⟩
theorem p_fr_in (hV : md_V n fr to cp cs) (x3 : Int32) : ∀ (F k : Nat) (cg : Bool) (la T : Nat) (x2 : Int32) (σ : fl_St), k ≤ n → n - k < F → T + 2 * n ≤ 800 + 2 * k → md_N σ n fr to cp cs sp → rv σ 5 = f → la_R x2 cg la → fr_I n fr to cp cs f x1 r (2 * k) cg la T σ →
    ∃ (cg' : Bool) (la' : Nat) (w' : Int32) (σ' : fl_St), f_X3_findRound_l46 x1 x3 F x2 (nI k) σ = some (w', σ') ∧ md_F σ σ' ∧ la_R w' cg' la' ∧ fr_I n fr to cp cs f x1 r (2 * n) cg' la' (T + (2 * n - 2 * k)) σ' := by
  have hn := hV.1
  intro F
  induction F with
  | zero => intro k cg la T x2 σ h1 h2; omega
  | succ F ih =>
    intro k cg la T x2 σ h1 h2 hT hN h5 hla hI
    by_cases c : k = n
    · subst c
      exact ⟨cg, la, x2, σ, by rw [f_X3_findRound_l46, hN.1, if_pos (nI_le (Nat.le_refl _) (by omega))], md_F.rf, hla, by rw [show 2 * k - 2 * k = 0 by omega]; exact hI⟩
    · obtain ⟨cg1, la1, w1, σ1, e1, e2, e3, e4⟩ := p_fr_step hV (show k < n by omega) hN h5 (by omega) hI hla x3 F
      rw [e1]
      obtain ⟨cg', la', w', σ', z1, z2, z3, z4⟩ := ih (k + 1) cg1 la1 (T + 2) w1 σ1 (by omega) (by omega) (by omega) (e2.N hN) (by rw [← h5]; exact rv_k (e2.1 5 (by decide) (by decide))) e3 e4
      exact ⟨cg', la', w', σ', z1, e2.tr z2, z3, by rw [show T + (2 * n - 2 * k) = T + 2 + (2 * n - 2 * (k + 1)) by omega]; exact z4⟩
theorem p_fr_z (x1 : Int32) : ∀ (F i : Nat) (σ : fl_St), i ≤ 8 → 8 - i < F → (∀ v, v < i → rv σ 8 v = 0 ∧ rv σ 9 v = -1000004) → ∃ σ', f_X3_findRound_l2 x1 F (nI i) σ = some σ' ∧ md_F σ σ' ∧ ∀ v, v < 8 → rv σ' 8 v = 0 ∧ rv σ' 9 v = -1000004 := by
  intro F
  induction F with
  | zero => intro i σ h1 h2; omega
  | succ F ih =>
    intro i σ h1 h2 hz
    by_cases c : i = 8
    · subst c
      exact ⟨σ, by rw [f_X3_findRound_l2]; rfl, md_F.rf, hz⟩
    · rw [f_X3_findRound_l2, if_neg (nI_8 (by omega)), fl_wr_n (by omega) (by omega), fl_bs, fl_wr_n (by omega) (by omega), fl_bs, nI_1]
      obtain ⟨σ', e1, e2, e3⟩ := ih (i + 1) (st (st σ 8 i 0) 9 i (-1000004)) (by omega) (by omega) (fun v hv => by
        rw [rv_sk (k' := 8) _ _ _ (by decide), rv_st, rv_st (k := 9), rv_sk (k' := 9) _ _ _ (by decide)]
        by_cases e : v = i
        · subst e
          rw [fl_up_s, fl_up_s]
          exact ⟨by decide, by decide⟩
        · rw [fl_up_n _ _ e, fl_up_n _ _ e]
          exact hz v (by omega))
      exact ⟨σ', e1, (md_F.ss (by omega) (by omega)).tr e2, e3⟩
theorem p_fr_out (hV : md_V n fr to cp cs) : ∀ (F q : Nat) (la T : Nat) (x2 : Int32) (σ : fl_St), q ≤ 8 → 9 - q < F → T ≤ 1 + q * (2 * n) → md_N σ n fr to cp cs sp → rv σ 5 = f → fr_I n fr to cp cs f x1 q 0 false la T σ →
    ∃ (cg' : Bool) (la' T' : Nat) (w' : Int32) (σ' : fl_St), f_X3_findRound_l34 x1 F x2 (nI q) σ = some (w', σ') ∧ md_F σ σ' ∧ la_R w' cg' la' ∧ T' ≤ 1000 ∧ fr_I n fr to cp cs f x1 8 (2 * n) cg' la' T' σ' := by
  have hn := hV.1
  intro F
  induction F with
  | zero => intro q la T x2 σ h1 h2; omega
  | succ F ih =>
    intro q la T x2 σ h1 h2 hT hN h5 hI
    have hT2 : q * (2 * n) ≤ q * 40 := Nat.mul_le_mul_left _ (by omega)
    obtain ⟨cg1, la1, w1, σ1, e1, e2, e3, e4⟩ := p_fr_in hV (nI q) fl_N 0 false la T (-1000004) σ (by omega) (by unfold fl_N; omega) (by omega) hN h5 (Or.inl ⟨rfl, rfl⟩) hI
    have hnot : ¬ (8 : Int32) < nI q := nI_nlt (a := 8) (b := q) h1 (by omega)
    rw [f_X3_findRound_l34, if_neg hnot]
    have e1 : f_X3_findRound_l46 x1 (nI q) fl_N (-1000004) 0 σ = some (w1, σ1) := e1
    rw [e1, fl_b2s, nI_1]
    by_cases c : q = 8
    · subst c
      refine ⟨cg1, la1, _, w1, σ1, ?_, e2, e3, ?_, e4⟩
      · cases F with
        | zero => omega
        | succ F => rw [f_X3_findRound_l34]; rfl
      · omega
    · obtain ⟨cg', la', T', w', σ', z1, z2, z3, z4, z5⟩ := ih (q + 1) 0 (T + (2 * n - 2 * 0)) w1 σ1 (by omega) (by omega) (by rw [Nat.succ_mul q (2 * n)]; omega) (e2.N hN) (by rw [← h5]; exact rv_k (e2.1 5 (by decide) (by decide))) (bf_round e4 0)
      exact ⟨cg', la', T', w', σ', z1, e2.tr z2, z3, z4, z5⟩
theorem p_findRound (hV : md_V n fr to cp cs) {σ : fl_St} (hN : md_N σ n fr to cp cs sp) (h5 : rv σ 5 = f) :
    ∃ (cg : Bool) (la T : Nat) (w : Int32) (σ' : fl_St), f_X3_findRound x1 σ = some (w, σ') ∧ md_F σ σ' ∧ la_R w cg la ∧ T ≤ 1000 ∧ fr_I n fr to cp cs f x1 8 (2 * n) cg la T σ' := by
  obtain ⟨σ1, a1, a2, a3⟩ := p_fr_z x1 fl_N 0 σ (by omega) (by unfold fl_N; omega) (fun v hv => by omega)
  have h0 : fr_I n fr to cp cs f x1 0 0 false 0 1 σ1 := bf_start (by decide) (fun _ _ => Or.inr rfl) (fun v hv => by show bd (rv σ1 9 v) = -1; rw [(a3 v hv).2]; rfl) (fun v hv => (a3 v hv).1)
  obtain ⟨cg, la, T, w, σ2, b1, b2, b3, b4, b5⟩ := p_fr_out hV fl_N 0 0 1 (-1000004) σ1 (by omega) (by unfold fl_N; omega) (by omega) (a2.N hN) (by rw [← h5]; exact rv_k (a2.1 5 (by decide) (by decide))) h0
  refine ⟨cg, la, T, w, σ2, ?_, a2.tr b2, b3, b4, b5⟩
  unfold f_X3_findRound
  rw [show f_X3_findRound_l2 x1 fl_N 0 σ = some σ1 from a1, fl_bs, show f_X3_findRound_l34 x1 fl_N (-1000004) 0 σ1 = some (w, σ2) from b1, fl_b2s]
/-- how findRound begins, whatever stood there -/
def fr_0 (i : Nat) (σ : fl_St) : fl_St := fun k j => if k = 8 ∧ i ≤ j ∧ j < 8 then 0 else if k = 9 ∧ i ≤ j ∧ j < 8 then -1000004 else σ k j
theorem p_fr_z2 (x1 : Int32) : ∀ (F i : Nat) (σ : fl_St), i ≤ 8 → 8 - i < F → f_X3_findRound_l2 x1 F (nI i) σ = some (fr_0 i σ) := by
  intro F
  induction F with
  | zero => intro i σ h1 h2; omega
  | succ F ih =>
    intro i σ h1 h2
    by_cases c : i = 8
    · subst c
      have e : fr_0 8 σ = σ := by
        funext k j
        unfold fr_0
        rw [if_neg (by omega), if_neg (by omega)]
      rw [e, f_X3_findRound_l2]; rfl
    · rw [f_X3_findRound_l2, if_neg (nI_8 (by omega)), fl_wr_n (by omega) (by omega), fl_bs, fl_wr_n (by omega) (by omega), fl_bs, nI_1, ih (i + 1) _ (by omega) (by omega)]
      congr 1
      funext k j
      unfold fr_0 st upd
      by_cases k8 : k = 8
      · subst k8
        by_cases e : j = i
        · subst e; simp; omega
        · by_cases e2 : i ≤ j ∧ j < 8
          · rw [if_pos (by omega), if_pos (by omega)]
          · rw [if_neg (c := 8 = 8 ∧ i + 1 ≤ j ∧ j < 8) (by omega), if_neg (c := 8 = 9 ∧ i + 1 ≤ j ∧ j < 8) (by omega), if_neg (c := 8 = 8 ∧ i ≤ j ∧ j < 8) (by omega), if_neg (c := 8 = 9 ∧ i ≤ j ∧ j < 8) (by omega)]
            simp [e]
      · by_cases k9 : k = 9
        · subst k9
          by_cases e : j = i
          · subst e; simp; omega
          · by_cases e2 : i ≤ j ∧ j < 8
            · rw [if_neg (by omega), if_pos (by omega), if_neg (by omega), if_pos (by omega)]
            · rw [if_neg (c := 9 = 8 ∧ i + 1 ≤ j ∧ j < 8) (by omega), if_neg (c := 9 = 9 ∧ i + 1 ≤ j ∧ j < 8) (by omega), if_neg (c := 9 = 8 ∧ i ≤ j ∧ j < 8) (by omega), if_neg (c := 9 = 9 ∧ i ≤ j ∧ j < 8) (by omega)]
              simp [e]
        · simp [k8, k9]
theorem fr_same {σ σ' : fl_St} (h : md_F σ σ') : fr_0 0 σ' = fr_0 0 σ := by
  funext k j
  unfold fr_0
  by_cases k8 : k = 8 ∧ 0 ≤ j ∧ j < 8
  · rw [if_pos k8, if_pos k8]
  · rw [if_neg k8, if_neg k8]
    by_cases k9 : k = 9 ∧ 0 ≤ j ∧ j < 8
    · rw [if_pos k9, if_pos k9]
    · rw [if_neg k9, if_neg k9]
      by_cases e8 : k = 8
      · rw [e8]; exact (h.2 j (by omega)).1
      · by_cases e9 : k = 9
        · rw [e9]; exact (h.2 j (by omega)).2
        · rw [h.1 k e8 e9]
/-- once more, and it comes out the same -/
theorem p_fr_idem {σ σ' : fl_St} (h : md_F σ σ') : f_X3_findRound x1 σ' = f_X3_findRound x1 σ := by
  unfold f_X3_findRound
  rw [show f_X3_findRound_l2 x1 fl_N 0 σ' = some (fr_0 0 σ') from p_fr_z2 x1 fl_N 0 σ' (by omega) (by unfold fl_N; omega), show f_X3_findRound_l2 x1 fl_N 0 σ = some (fr_0 0 σ) from p_fr_z2 x1 fl_N 0 σ (by omega) (by unfold fl_N; omega), fr_same h]
end FR
