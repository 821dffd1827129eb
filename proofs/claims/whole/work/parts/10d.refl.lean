/-! the pauses between groups -/
noncomputable def Wg (s : Sg) (V : Int32) (H : Nat) (wx wy : Nat → Int32) (g h : Nat) : Nat := if g ≠ h ∧ ¬ rnk s h < rnk s g ∧ btN s V H wx wy g h ≤ 60 then btN s V H wx wy g h else 0
theorem Wg_b (s : Sg) (V : Int32) (H : Nat) (wx wy : Nat → Int32) (g h : Nat) : Wg s V H wx wy g h ≤ 60 := by
  unfold Wg
  by_cases hc : g ≠ h ∧ ¬ rnk s h < rnk s g ∧ btN s V H wx wy g h ≤ 60
  · rw [if_pos hc]; exact hc.2.2
  · rw [if_neg hc]; omega
theorem Rel.inj {s : Sg} (hr : Rel s) {n l m i j : Nat} (hn : n < 13) (e : sI s 207 20 = nI n) (hl : l < n) (hv : LV s l m) (hi : i < m) (hj : j < i) : pgi s l j ≠ pgi s l i := fun z => by
  obtain ⟨-, -, -, -, -, m', hm', hm2, -, hI⟩ := hr.n hn e (show l < 12 by omega)
  have hmm : m' = m := by
    have := hv.2.2.1
    rw [hm2] at this
    exact (nI_eq (by omega) (by have := hv.2.1; omega)).mp this
  subst hmm
  refine (hI i hi).2 j hj ?_
  rw [(hr.lgi hn e hl hv hi).2.1, (hr.lgi hn e hl hv (show j < m' by omega)).2.1, z]
theorem GW.on {s sa s1 : Sg} {b g H c : Nat} {V : Int32} {wx wy : Nat → Int32} (h : GW s sa b g V H wx wy) (ho : On sa s1 c) (hc : c < 183) : GW s s1 b g V H wx wy := by
  obtain ⟨h1, h3, h4, h5, h6, h7, h8, h9, h10⟩ := h
  have hb := h1.2.2.2.2.2.2.2.1
  refine ⟨h1, ho.1.trans h3, by rw [ho.2.1]; exact h4, by rw [ho.2.1]; exact h5, by rw [ho.2.1]; exact h6, fun t ht => ?_, by rw [ho.2.2.2 _ _ (by omega)]; exact h8, by rw [ho.2.2.2 _ _ (by omega)]; exact h9, h10⟩
  rw [ho.2.2.2 _ _ (by omega), ho.2.2.2 _ _ (by omega), ho.2.2.2 _ _ (by omega)]
  exact h7 t ht
section MEAS
variable {s : Sg} {P A ax ay H n l m : Nat} {V : Int32} {wx wy : Nat → Int32}
theorem pos_eq {a b c d : Nat} (h1 : b < 20) (h2 : d < 20) (h : a * 20 + b = c * 20 + d) : a = c ∧ b = d := by omega
theorem measure_ok (hr : Rel s) (hn : n < 13) (e : sI s 207 20 = nI n) (hl : l < n) (hv : LV s l m) (hP : PA s P A ax ay V H wx wy) (e4 : sR s (99 + 7 * l) 4 = some P) (e5 : sR s (99 + 7 * l) 5 = some A) : ∃ s', mX8_measurePauses 0 (some (99 + 7 * l)) s = some ((), s') ∧ Scr s s' ∧ ∀ i j, i < m → j < m → sI s' 12 (pgi s l i * 20 + pgi s l j) = nI (Wg s V H wx wy (pgi s l i) (pgi s l j)) := by
  have hN := hr.1.1
  obtain ⟨sa, a1, a2, a3⟩ := followAll_ok hr hn e hl hv hP e4 e5
  have hp := fun i hi => hr.lgi hn e hl hv (i := i) hi
  have hl12 := hv.1
  have hm := hv.2.1
  obtain ⟨k1, k2, k3, k4, k5, -⟩ := kdLo l hl12
  -- one pair
  have pair : ∀ s1, On sa s1 12 → ∀ i j, i < m → j < m → ∀ (K : Unit → Sg → Option (Unit × Sg)), (jn (fun (q15 : Int32) (s16 : Sg) => jn (fun (q18 : Int32) (s19 : Sg) => gdR s19 8 8 (some 0) fun v21 => cv s19 4 v21 fun a24 => cl (mX4_measure a24 (some (56 + 2 * pgi s l i)) (some (56 + 2 * pgi s l j)) q18 s19) fun u22 s23 => K u22 s23) (fun j20 => if q15 = 0 then (j20 0 s16) else (gdR s16 8 7 (some 0) fun v25 => alR s16 1 v25 (nI i) fun v26 => gdR s16 8 7 (some 0) fun v27 => alR s16 1 v27 (nI j) fun v28 => gdR s16 5 4 (some (99 + 7 * l)) fun v29 => gdI s16 6 3 v29 fun v30 => cv s16 8 (some 0) fun a33 => cl (mX8_leastPause a33 v26 v28 v30 s16) fun v31 s32 => j20 v31 s32))) (fun j17 => jn (fun (q34 : Unit) (s35 : Sg) => j17 0 s35) (fun j36 => if nI i = nI j then (j36 () s1) else (cv s1 8 (some 0) fun a39 => cl (mX8_mayLeaveAhead a39 (some (56 + 2 * pgi s l i)) (some (56 + 2 * pgi s l j)) s1) fun v37 s38 => if v37 = 0 then (j36 () s38) else (j17 1 s38))))) = K () (uI s1 12 (pgi s l i * 20 + pgi s l j) (nI (Wg s V H wx wy (pgi s l i) (pgi s l j)))) := by
    intro s1 ho i j hi hj K
    have hS1 : Scr s s1 := a2.tr (ho.toS (by omega))
    have hr1 := hr.scr hS1
    have hN1 := hr1.1.1
    have hR1 : sR s1 = sR s := hS1.2.1
    obtain ⟨g1, g2, g3⟩ := hp i hi
    obtain ⟨h1, h2, h3⟩ := hp j hj
    have hg20 := g1.1
    have hh20 := h1.1
    obtain ⟨f1, f2, f3, f4, f5, f6⟩ := fall_ref hr.1 (i := i) (by omega)
    obtain ⟨f1', -, -, -, f5', -⟩ := fall_ref hr.1 (i := j) (by omega)
    have q := hr1.1
    obtain ⟨h0, y0, y1, y2, y3, y4, y5, y6, y7, y8, y9, y10, y11, y12, y13, b1, b2, b3, -⟩ := q
    have meas : ∀ w : Int32, (gdR s1 8 8 (some 0) fun v21 => cv s1 4 v21 fun a24 => cl (mX4_measure a24 (some (56 + 2 * pgi s l i)) (some (56 + 2 * pgi s l j)) w s1) fun u22 s23 => K u22 s23) = K () (uI s1 12 (pgi s l i * 20 + pgi s l j) w) := fun w => by
      rw [dR hN1, y8, cv_at (by decide) (by rw [hN1]; decide)]
      unfold mX4_measure
      rw [gdR_at (by decide) (by rw [hN1]; decide), y11, gdI_at (kdGr _ hg20).1 (by omega), (b3 _ hg20).2.1, gdI_at (kdGr _ hh20).1 (by omega), (b3 _ hh20).2.1, i20', asI_n (show _ < ln 12 from show _ < 400 by omega) (by decide) (by rw [hN1]; decide), cl_some]
    rw [jn_eq, jn_eq]
    by_cases hij : i = j
    · subst hij
      rw [if_pos rfl]
      dsimp only
      rw [jn_eq, if_pos rfl]
      dsimp only
      rw [meas]
      have : Wg s V H wx wy (pgi s l i) (pgi s l i) = 0 := by
        unfold Wg
        rw [if_neg (fun z => z.1 rfl)]
      rw [this]
      rfl
    · have hne : pgi s l i ≠ pgi s l j := by
        rcases Nat.lt_or_ge i j with h | h
        · exact hr.inj hn e hl hv hj h
        · exact fun z => hr.inj hn e hl hv hi (show j < i by omega) z.symm
      rw [if_neg (fun z => hij ((nI_eq (by omega) (by omega)).mp z)), c8 hN1, cMay hr1 (by
        have := g1; unfold GN at this ⊢; rw [hS1.e7 (by decide)]; exact this) (by
        have := h1; unfold GN at this ⊢; rw [hS1.e7 (by decide)]; exact this), cl_some, rnk_scr (hS1.me hr.1.m), rnk_scr (hS1.me hr.1.m)]
      by_cases hc : rnk s (pgi s l j) < rnk s (pgi s l i)
      · rw [if_pos hc, if_pos rfl]
        dsimp only
        rw [jn_eq, if_pos rfl]
        dsimp only
        rw [meas]
        have : Wg s V H wx wy (pgi s l i) (pgi s l j) = 0 := by
          unfold Wg
          rw [if_neg (fun z => z.2.1 hc)]
        rw [this]
        rfl
      · rw [if_neg hc, if_neg (by decide)]
        dsimp only
        rw [jn_eq, if_neg (by decide), dR hN1, hR1, f6, alR_n (show i < ln 10 from show i < 6 by omega) (by decide) (by omega), hR1, f5, dR hN1, hR1, f6, alR_n (show j < ln 10 from show j < 6 by omega) (by decide) (by omega), hR1, f5', gdR_at k1 (by omega), hR1, e4, gdI_at hP.1.1 (by have := hP.1.2.1; omega), (hP.scr hS1).2.1, c8 hN1, leastPause_ok hr hS1 hP g1 h1 ((a3 i hi).on ho (by decide)) ((a3 j hj).on ho (by decide)), cl_some]
        dsimp only
        rw [meas]
        have : Wg s V H wx wy (pgi s l i) (pgi s l j) = if btN s V H wx wy (pgi s l i) (pgi s l j) ≤ 60 then btN s V H wx wy (pgi s l i) (pgi s l j) else 0 := by
          unfold Wg
          by_cases hb : btN s V H wx wy (pgi s l i) (pgi s l j) ≤ 60
          · rw [if_pos ⟨hne, hc, hb⟩, if_pos hb]
          · rw [if_neg (fun z => hb z.2.2), if_neg hb]
        rw [this]
        by_cases hb : btN s V H wx wy (pgi s l i) (pgi s l j) ≤ 60
        · rw [if_pos hb, if_pos hb]
        · rw [if_neg hb, if_neg hb]; rfl
  -- a pair written
  have wr : ∀ s1 i j, i < m → j < m → ∀ i' j', i' < m → j' < m → (sI s1 12 (pgi s l i' * 20 + pgi s l j') = nI (Wg s V H wx wy (pgi s l i') (pgi s l j')) ∨ (i' = i ∧ j' = j)) → sI (uI s1 12 (pgi s l i * 20 + pgi s l j) (nI (Wg s V H wx wy (pgi s l i) (pgi s l j)))) 12 (pgi s l i' * 20 + pgi s l j') = nI (Wg s V H wx wy (pgi s l i') (pgi s l j')) := fun s1 i j hi hj i' j' hi' hj' h => by
    rw [sI_if]
    by_cases hc : pgi s l i' * 20 + pgi s l j' = pgi s l i * 20 + pgi s l j
    · obtain ⟨x1, x2⟩ := pos_eq (hp j' hj').1.1 (hp j hj).1.1 hc
      rw [if_pos ⟨rfl, hc⟩, x1, x2]
    · rw [if_neg (fun z => hc z.2)]
      rcases h with h | ⟨rfl, rfl⟩
      · exact h
      · exact absurd rfl hc
  unfold mX8_measurePauses
  rw [c8 hN, a1, cl_some]
  have cnt : ∀ s1, On sa s1 12 → sN s1 = 249 ∧ sR s1 = sR s ∧ sI s1 (99 + 7 * l) 6 = nI m := fun s1 ho => by
    have hS1 : Scr s s1 := a2.tr (ho.toS (by omega))
    exact ⟨hS1.1.trans hN, hS1.2.1, by rw [hS1.eq (a := 99 + 7 * l) (by omega)]; exact hv.2.2.2.1⟩
  refine lp_inv (F := mX8_measurePauses_b7 (some (99 + 7 * l)) 0) (n := m) (I := fun i q s1 => q = nI i ∧ On sa s1 12 ∧ ∀ i' j', i' < i → j' < m → sI s1 12 (pgi s l i' * 20 + pgi s l j') = nI (Wg s V H wx wy (pgi s l i') (pgi s l j'))) (Q := fun x => ∃ s', x = some ((), s') ∧ Scr s s' ∧ ∀ i j, i < m → j < m → sI s' 12 (pgi s l i * 20 + pgi s l j) = nI (Wg s V H wx wy (pgi s l i) (pgi s l j))) (fun q s1 r h => ?_) (fun i q s1 r hi h hr' => ?_) FU 0 (Nat.zero_le _) (show m - 0 < 4000 by omega) _ _ ⟨rfl, On.rf, fun i' j' h => absurd h (Nat.not_lt_zero i')⟩
  · obtain ⟨rfl, c1, c2⟩ := h
    obtain ⟨n1, n2, n3⟩ := cnt s1 c1
    refine ⟨s1, ?_, a2.tr (c1.toS (by omega)), c2⟩
    unfold mX8_measurePauses_b7
    rw [gdI_at k1 (by omega), n3, if_pos (Int32.le_refl _)]
  · obtain ⟨rfl, c1, c2⟩ := h
    obtain ⟨n1, n2, n3⟩ := cnt s1 c1
    unfold mX8_measurePauses_b7
    rw [gdI_at k1 (by omega), n3, if_neg (nI_ge hi (by omega))]
    refine lp_inv (F := mX8_measurePauses_b17 (some (99 + 7 * l)) r (nI i) 0) (n := m) (I := fun j q s1 => q = nI j ∧ On sa s1 12 ∧ ∀ i' j', i' < m → j' < m → (i' < i ∨ (i' = i ∧ j' < j)) → sI s1 12 (pgi s l i' * 20 + pgi s l j') = nI (Wg s V H wx wy (pgi s l i') (pgi s l j'))) (Q := fun x => ∃ s', x = some ((), s') ∧ Scr s s' ∧ ∀ i j, i < m → j < m → sI s' 12 (pgi s l i * 20 + pgi s l j) = nI (Wg s V H wx wy (pgi s l i) (pgi s l j))) (fun q s1 r2 h => ?_) (fun j q s1 r2 hj h hr2 => ?_) FU 0 (Nat.zero_le _) (show m - 0 < 4000 by omega) _ _ ⟨rfl, c1, fun i' j' hi' hj' h => c2 i' j' (by omega) hj'⟩
    · obtain ⟨rfl, d1, d2⟩ := h
      obtain ⟨n1, n2, n3⟩ := cnt s1 d1
      unfold mX8_measurePauses_b17
      rw [gdI_at k1 (by omega), n3, if_pos (Int32.le_refl _), nI_1]
      exact hr' _ _ ⟨rfl, d1, fun i' j' hi' hj' => d2 i' j' (by omega) hj' (by omega)⟩
    · obtain ⟨rfl, d1, d2⟩ := h
      obtain ⟨n1, n2, n3⟩ := cnt s1 d1
      obtain ⟨-, -, -, -, z3, -⟩ := hv
      unfold mX8_measurePauses_b17
      rw [gdI_at k1 (by omega), n3, if_neg (nI_ge hj (by omega)), gdR_at k1 (by omega), n2, z3, alR_n (show i < ln _ by omega) k2 (by omega), n2, (hp i hi).2.2, gdR_at k1 (by omega), n2, z3, alR_n (show j < ln _ by omega) k2 (by omega), n2, (hp j hj).2.2, pair s1 d1 i j hi hj, nI_1]
      refine hr2 _ _ ⟨rfl, d1.tr On.u, fun i' j' hi' hj' h => wr s1 i j hi hj i' j' hi' hj' ?_⟩
      by_cases hq : i' = i ∧ j' = j
      · exact Or.inr hq
      · exact Or.inl (d2 i' j' hi' hj' (by omega))
end MEAS
/-- the line gives its best order to the load -/
def pzF (W : Nat → Nat → Nat) (B : Nat → Nat) (k : Nat) : Nat := if k = 0 then 1 else W (B (k - 1)) (B k)
theorem giveTo_ok {s : Sg} {n l : Nat} {B : Nat → Nat} {W : Nat → Nat → Nat} (hL : LN s n) (hl : l < 12) (hgr : sR s (99 + 7 * l) 0 = some (100 + 7 * l)) (hpa : sR s (99 + 7 * l) 1 = some (101 + 7 * l)) (hds : ∀ g, g < 20 → sR s 6 g = some (56 + 2 * g)) (hB : ∀ k, k < n → B k < 20) (hR : RW s 14 B n) (hP : PWc s W B n) : ∃ s', mX4_giveTo 11 (some (99 + 7 * l)) (some 6) s = some ((), s') ∧ sN s' = sN s ∧ sF s' = sF s ∧ (∀ a k, ¬ (a = 100 + 7 * l ∧ k < n) → sR s' a k = sR s a k) ∧ (∀ k, k < n → sR s' (100 + 7 * l) k = some (56 + 2 * B k)) ∧ (∀ a q, ¬ (a = 101 + 7 * l ∧ q < n) → sI s' a q = sI s a q) ∧ ∀ k, k < n → sI s' (101 + 7 * l) k = nI (pzF W B k) := by
  obtain ⟨k1, k2, k3, k4, k5, -⟩ := kdLo l hl
  have hL0 := hL
  obtain ⟨hN, q0, q1, q2, q3, q4, q5⟩ := hL
  refine lp_inv (F := mX4_giveTo_b2 11 (some (99 + 7 * l)) (some 6)) (n := n) (I := fun i q s' => q = nI i ∧ sN s' = sN s ∧ sF s' = sF s ∧ (∀ a k, ¬ (a = 100 + 7 * l ∧ k < i) → sR s' a k = sR s a k) ∧ (∀ k, k < i → sR s' (100 + 7 * l) k = some (56 + 2 * B k)) ∧ (∀ a q, ¬ (a = 101 + 7 * l ∧ q < i) → sI s' a q = sI s a q) ∧ ∀ k, k < i → sI s' (101 + 7 * l) k = nI (pzF W B k)) (Q := fun x => ∃ s', x = some ((), s') ∧ sN s' = sN s ∧ sF s' = sF s ∧ (∀ a k, ¬ (a = 100 + 7 * l ∧ k < n) → sR s' a k = sR s a k) ∧ (∀ k, k < n → sR s' (100 + 7 * l) k = some (56 + 2 * B k)) ∧ (∀ a q, ¬ (a = 101 + 7 * l ∧ q < n) → sI s' a q = sI s a q) ∧ ∀ k, k < n → sI s' (101 + 7 * l) k = nI (pzF W B k)) (fun q s' r h => ?_) (fun i q s' r hi h hr => ?_) FU 0 (Nat.zero_le _) (show n - 0 < 4000 by omega) _ _ ⟨rfl, rfl, rfl, fun _ _ _ => rfl, fun k hk => absurd hk (Nat.not_lt_zero k), fun _ _ _ => rfl, fun k hk => absurd hk (Nat.not_lt_zero k)⟩
  · obtain ⟨rfl, c1, c2⟩ := h
    have hN' : sN s' = 249 := c1.trans hN
    refine ⟨s', ?_, c1, c2⟩
    unfold mX4_giveTo_b2
    rw [gdI_at (by decide) (by rw [hN']; decide), c2.2.2.2.1 11 3 (by omega), q3, if_pos (Int32.le_refl _)]
  · obtain ⟨rfl, c1, c2, c3, c4, c5, c6⟩ := h
    have hN' : sN s' = 249 := c1.trans hN
    have hBi := hB i hi
    have hki : i < ln (100 + 7 * l) := by omega
    have hki1 : i < ln (101 + 7 * l) := by omega
    have hN2 : sN (uR s' (100 + 7 * l) i (some (56 + 2 * B i))) = 249 := hN'
    have hRo : ∀ a k, ¬ (a = 100 + 7 * l ∧ k < i + 1) → sR (uR s' (100 + 7 * l) i (some (56 + 2 * B i))) a k = sR s a k := fun a k h => by
      rw [sR_if, if_neg (by omega)]
      exact c3 a k (by omega)
    have hRn : ∀ k, k < i + 1 → sR (uR s' (100 + 7 * l) i (some (56 + 2 * B i))) (100 + 7 * l) k = some (56 + 2 * B k) := fun k hk => by
      rw [sR_if]
      by_cases hki : k = i
      · subst hki; rw [if_pos ⟨rfl, rfl⟩]
      · rw [if_neg (fun z => hki z.2)]; exact c4 k (by omega)
    have pz0 : pzF W B 0 = 1 := rfl
    unfold mX4_giveTo_b2
    rw [gdI_at (by decide) (by rw [hN']; decide), c5 11 3 (by omega), q3, if_neg (nI_ge hi (by omega)), gdR_at k1 (by omega), c3 _ _ (by omega), hgr, aln_at (by rw [k2]; decide) (by omega), k3, if_neg (nI_ge (show i < 6 by omega) (by decide)), gdR_at k1 (by omega), c3 _ _ (by omega), hgr, gdR_at (by decide) (by rw [hN']; decide), c3 _ _ (by omega), q2, alI_n (show i < ln 14 from show i < 6 by omega) (by decide) (by rw [hN']; decide), c5 _ _ (by omega), hR i hi, alR_n (show B i < ln 6 from hBi) (by decide) (by rw [hN']; decide), c3 _ _ (by omega), hds _ hBi, asR_n (isAb_s (kdGr _ hBi).1 (by omega)) hki k2 (by omega), gdR_at k1 (by omega), hRo _ _ (by omega), hpa]
    have fin : ∀ w : Int32, w = nI (pzF W B i) → ∃ s3, r (nI (i + 1)) (uI (uR s' (100 + 7 * l) i (some (56 + 2 * B i))) (101 + 7 * l) i w) = some ((), s3) ∧ sN s3 = sN s ∧ sF s3 = sF s ∧ (∀ a k, ¬ (a = 100 + 7 * l ∧ k < n) → sR s3 a k = sR s a k) ∧ (∀ k, k < n → sR s3 (100 + 7 * l) k = some (56 + 2 * B k)) ∧ (∀ a q, ¬ (a = 101 + 7 * l ∧ q < n) → sI s3 a q = sI s a q) ∧ ∀ k, k < n → sI s3 (101 + 7 * l) k = nI (pzF W B k) := fun w hw => by
      refine hr _ _ ⟨rfl, c1, c2, hRo, hRn, fun a q h => ?_, fun k hk => ?_⟩
      · rw [sI_if, if_neg (by omega)]
        exact c5 a q (by omega)
      · rw [sI_if]
        by_cases hki : k = i
        · subst hki; rw [if_pos ⟨rfl, rfl⟩, hw]
        · rw [if_neg (fun z => hki z.2)]; exact c6 k (by omega)
    cases i with
    | zero =>
      rw [if_neg (show ¬ ¬ nI 0 = 0 by decide), asI_n hki1 k4 (by omega), nI_1]
      exact fin 1 (by rw [pz0]; rfl)
    | succ i =>
      have hBp := hB i (by omega)
      have hLs : LN (uR s' (100 + 7 * l) (i + 1) (some (56 + 2 * B (i + 1)))) n := ⟨hN', by rw [hRo _ _ (by omega)]; exact q0, by rw [hRo _ _ (by omega)]; exact q1, by rw [hRo _ _ (by omega)]; exact q2, (c5 11 3 (by omega)).trans q3, q4, q5⟩
      have eI : ∀ a q, ¬ (a = 101 + 7 * l ∧ q < i + 1) → sI (uR s' (100 + 7 * l) (i + 1) (some (56 + 2 * B (i + 1)))) a q = sI s a q := fun a q h => c5 a q h
      rw [if_pos (nI_ne0 (by omega) (by omega)), gdR_at (by decide) (by rw [hN2]; decide), hRo _ _ (by omega), q2, nI_pred, alI_n (show i < ln 14 from show i < 6 by omega) (by decide) (by rw [hN2]; decide), eI _ _ (by omega), hR i (by omega), gdR_at (by decide) (by rw [hN2]; decide), hRo _ _ (by omega), q2, alI_n (show i + 1 < ln 14 from show i + 1 < 6 by omega) (by decide) (by rw [hN2]; decide), eI _ _ (by omega), hR (i + 1) hi, cv_at (by decide) (by rw [hN2]; decide), pauseB hLs hBp hBi, cl_some, eI _ _ (by omega), hP i (i + 1) (by omega) hi, asI_n hki1 k4 (by omega), nI_1]
      exact fin _ (by
        unfold pzF
        rw [if_neg (by omega), Nat.add_sub_cancel])
