/-! WHY: near ones, and who comes home -/
noncomputable def bad (s : Sg) (l : Nat) (V : Int32) (H : Nat) (wx wy : Nat → Int32) (a b : Nat) : Prop := nG s V H wx wy (pgi s l a) (pgi s l b) (pN s l b - pN s l a) < RR s
noncomputable def cW10 (s : Sg) (l m : Nat) (V : Int32) (H : Nat) (wx wy : Nat → Int32) : Prop := ∃ i, i < m ∧ ∃ j, i < j ∧ j < m ∧ bad s l V H wx wy i j
noncomputable def cW11 (s : Sg) (l m : Nat) (V : Int32) (H : Nat) (wx wy : Nat → Int32) : Prop := ∃ i, i < m ∧ (rst s (pgi s l i) H wy).toInt < ((sI s 231 l).toInt + dri s l V H wx i) * ((sI s 231 l).toInt + dri s l V H wx i)
theorem sLo_le {D : Nat → Int} {W : Nat → Nat} {x : Int} : ∀ m, (sLo D W m ≤ x ↔ -50000 ≤ x ∧ ∀ i, i < m → -(D i) - (W i : Int) ≤ x)
  | 0 => ⟨fun h => ⟨h, fun i hi => absurd hi (Nat.not_lt_zero i)⟩, fun h => h.1⟩
  | m + 1 => by
    have ih := sLo_le (D := D) (W := W) (x := x) m
    have e : sLo D W (m + 1) = max (sLo D W m) (-(D m) - (W m : Int)) := rfl
    rw [e]
    refine ⟨fun h => ⟨(ih.1 (by omega)).1, fun i hi => ?_⟩, fun h => ?_⟩
    · by_cases him : i = m
      · subst him; omega
      · exact (ih.1 (by omega)).2 i (by omega)
    · have h1 := ih.2 ⟨h.1, fun i hi => h.2 i (by omega)⟩
      have h2 := h.2 m (by omega)
      omega
theorem sHi_ge {D : Nat → Int} {W : Nat → Nat} {x : Int} : ∀ m, (x ≤ sHi D W m ↔ x ≤ 50000 ∧ ∀ i, i < m → x ≤ -(D i) + (W i : Int))
  | 0 => ⟨fun h => ⟨h, fun i hi => absurd hi (Nat.not_lt_zero i)⟩, fun h => h.1⟩
  | m + 1 => by
    have ih := sHi_ge (D := D) (W := W) (x := x) m
    have e : sHi D W (m + 1) = min (sHi D W m) (-(D m) + (W m : Int)) := rfl
    rw [e]
    refine ⟨fun h => ⟨(ih.1 (by omega)).1, fun i hi => ?_⟩, fun h => ?_⟩
    · by_cases him : i = m
      · subst him; omega
      · exact (ih.1 (by omega)).2 i (by omega)
    · have h1 := ih.2 ⟨h.1, fun i hi => h.2 i (by omega)⟩
      have h2 := h.2 m (by omega)
      omega
theorem abs_sq {x r W : Int} (h0 : 0 ≤ W) (h1 : W * W ≤ r) (h2 : r < (W + 1) * (W + 1)) : (-W ≤ x ∧ x ≤ W) ↔ x * x ≤ r := by
  refine ⟨fun h => Int.le_trans (sq_b h.1 h.2).2 h1, fun h => ?_⟩
  rcases Classical.em (-W ≤ x ∧ x ≤ W) with hc | hc
  · exact hc
  · exfalso
    have h3 : (W + 1) * (W + 1) ≤ x * x := by
      rcases Int.lt_or_le x 0 with h4 | h4
      · have e : x * x = (-x) * (-x) := by rw [Int.neg_mul_neg]
        rw [e]
        exact Int.mul_le_mul (by omega) (by omega) (by omega) (by omega)
      · exact Int.mul_le_mul (by omega) (by omega) (by omega) (by omega)
    omega
section WW
variable {s s1 : Sg} {P A ax ay H n l m i : Nat} {V : Int32} {wx wy : Nat → Int32}
theorem cFree (hr : Rel s) (hS : Scr s s1) (hn : n < 13) (e : sI s 207 20 = nI n) (hl : l < n) (hv : LV s l m) (hP : PA s P A ax ay V H wx wy) (e4 : sR s (99 + 7 * l) 4 = some P) (hg : ∀ i, i < m → GW s s1 (183 + 4 * i) (pgi s l i) V H wx wy) : (cW10 s l m V H wx wy → mX8_allFree 0 (some (99 + 7 * l)) s1 = some (0, s1)) ∧ (¬ cW10 s l m V H wx wy → mX8_allFree 0 (some (99 + 7 * l)) s1 = some (1, s1)) := by
  have hN1 := (hr.scr hS).1.1
  have hR : sR s1 = sR s := hS.2.1
  have hv1 := hv.scr hS
  obtain ⟨hl12, hm, z1, z2, z3, z9, hM, z4⟩ := id hv1
  obtain ⟨k1, k2, k3, k4, k5, -⟩ := kdLo l hl12
  have hp := fun i hi => hr.lgi hn e hl hv (i := i) hi
  have inner : ∀ i, i < m → ∀ (r3 : Int32 → Sg → Option (Int32 × Sg)), ((∃ j, i < j ∧ j < m ∧ bad s l V H wx wy i j) → lp (mX8_allFree_b14 (some (99 + 7 * l)) r3 (nI i) 0) FU (nI i + 1) s1 = some (0, s1)) ∧ (¬ (∃ j, i < j ∧ j < m ∧ bad s l V H wx wy i j) → lp (mX8_allFree_b14 (some (99 + 7 * l)) r3 (nI i) 0) FU (nI i + 1) s1 = r3 (nI i + 1) s1) := by
    intro i hi r3
    obtain ⟨f1, f2, f3, f4, f5, f6⟩ := fall_ref hr.1 (i := i) (by omega)
    have stp : ∀ j, i < j → j < m → ∀ r, mX8_allFree_b14 (some (99 + 7 * l)) r3 (nI i) 0 r (nI j) s1 = if nG s V H wx wy (pgi s l i) (pgi s l j) (pN s l j - pN s l i) < RR s then some (0, s1) else r (nI j + 1) s1 := by
      intro j hij hj r
      obtain ⟨f1', -, -, -, f5', -⟩ := fall_ref hr.1 (i := j) (by omega)
      obtain ⟨p1, p2⟩ := hv.pQ j hj
      obtain ⟨p3, p4⟩ := hv.pQ i hi
      have p5 := pN_le s l i (j - i)
      rw [show i + (j - i) = j by omega] at p5
      unfold mX8_allFree_b14
      rw [gdI_at k1 (by omega), z2, if_neg (nI_ge hj (by omega)), cv_at k1 (by omega), hv1.sec hj, cl_some, cv_at k1 (by omega), hv1.sec hi, cl_some, psum_scr hS, psum_scr hS, p1, p3, pk_sub p5, dR hN1, hR, f6, alR_n (show i < ln 10 from show i < 6 by omega) (by decide) (by omega), hR, f5, dR hN1, hR, f6, alR_n (show j < ln 10 from show j < 6 by omega) (by decide) (by omega), hR, f5', gdR_at k1 (by omega), hR, e4, gdI_at hP.1.1 (by have := hP.1.2.1; omega), (hP.scr hS).2.1, c8 hN1, areFree_ok hr hS hP (hp i hi).1 (hp j hj).1 (hg i hi) (hg j hj) (by omega), cl_some]
      by_cases hc : nG s V H wx wy (pgi s l i) (pgi s l j) (pN s l j - pN s l i) < RR s
      · rw [if_pos hc, if_pos hc, if_neg (by decide)]
        rfl
      · rw [if_neg hc, if_neg hc, if_pos (by decide)]
    have hfin : ∀ r, mX8_allFree_b14 (some (99 + 7 * l)) r3 (nI i) 0 r (nI m) s1 = r3 (nI i + 1) s1 := by
      intro r
      unfold mX8_allFree_b14
      rw [gdI_at k1 (by omega), z2, if_pos (Int32.le_refl _)]
    suffices hgo : ∀ (d f j : Nat), m = j + d → d < f → i < j → ((∃ j', j ≤ j' ∧ j' < m ∧ bad s l V H wx wy i j') → lp (mX8_allFree_b14 (some (99 + 7 * l)) r3 (nI i) 0) f (nI j) s1 = some (0, s1)) ∧ (¬ (∃ j', j ≤ j' ∧ j' < m ∧ bad s l V H wx wy i j') → lp (mX8_allFree_b14 (some (99 + 7 * l)) r3 (nI i) 0) f (nI j) s1 = r3 (nI i + 1) s1) by
      have h9 := hgo (m - (i + 1)) FU (i + 1) (by omega) (show m - (i + 1) < 4000 by omega) (by omega)
      rw [nI_1 i] at h9 ⊢
      exact ⟨fun ⟨j, a, b, c⟩ => h9.1 ⟨j, a, b, c⟩, fun z => h9.2 (fun ⟨j, a, b, c⟩ => z ⟨j, a, b, c⟩)⟩
    intro d
    induction d with
    | zero =>
      intro f j hj hf hij
      obtain ⟨f, rfl⟩ : ∃ g, f = g + 1 := ⟨f - 1, by omega⟩
      have hjm : j = m := by omega
      subst hjm
      exact ⟨fun ⟨j', a, b, c⟩ => absurd b (by omega), fun _ => hfin _⟩
    | succ d ih =>
      intro f j hj hf hij
      obtain ⟨f, rfl⟩ : ∃ g, f = g + 1 := ⟨f - 1, by omega⟩
      have h9 := ih f (j + 1) (by omega) (by omega) (by omega)
      have e1 : lp (mX8_allFree_b14 (some (99 + 7 * l)) r3 (nI i) 0) (f + 1) (nI j) s1 = _ := stp j hij (by omega) (lp (mX8_allFree_b14 (some (99 + 7 * l)) r3 (nI i) 0) f)
      rw [e1, nI_1]
      by_cases hc : nG s V H wx wy (pgi s l i) (pgi s l j) (pN s l j - pN s l i) < RR s
      · rw [if_pos hc]
        exact ⟨fun _ => rfl, fun z => absurd ⟨j, Nat.le_refl _, by omega, hc⟩ z⟩
      · rw [if_neg hc]
        refine ⟨fun ⟨j', a, b, c⟩ => h9.1 ⟨j', ?_, b, c⟩, fun z => h9.2 (fun ⟨j', a, b, c⟩ => z ⟨j', by omega, b, c⟩)⟩
        by_cases hjj : j' = j
        · subst hjj; exact absurd c hc
        · omega
  have hb := bo_any (F := mX8_allFree_b2 (some (99 + 7 * l)) 0) (s := s1) (n := m) (c := fun i => ∃ j, i < j ∧ j < m ∧ bad s l V H wx wy i j) (E := fun v => if v = 0 then some (1, s1) else some (0, s1)) (fun r => ?_) (fun k hk hc r => ?_) (fun k hk hc r => ?_) FU 0 (Nat.zero_le _) (show m - 0 < 4000 by omega)
  · refine ⟨fun ⟨i, a, b⟩ => ?_, fun z => ?_⟩
    · have := hb.1 ⟨i, Nat.zero_le _, a, b⟩
      dsimp only at this
      rw [if_neg (by decide)] at this
      exact this
    · have := hb.2 (fun ⟨i, _, a, b⟩ => z ⟨i, a, b⟩)
      dsimp only at this
      rw [if_pos rfl] at this
      exact this
  · unfold mX8_allFree_b2
    rw [gdI_at k1 (by omega), z2, if_pos (Int32.le_refl _), if_pos rfl]
    rfl
  · unfold mX8_allFree_b2
    rw [gdI_at k1 (by omega), z2, if_neg (nI_ge hk (by omega)), if_neg (by decide)]
    exact (inner k hk r).1 hc
  · unfold mX8_allFree_b2
    rw [gdI_at k1 (by omega), z2, if_neg (nI_ge hk (by omega))]
    exact (inner k hk r).2 hc
theorem mSomeNear (hr : Rel s) (hS : MEq s s1) (hT : TD s1 V H wx wy) (hn : n < 13) (e : sI s 207 20 = nI n) (hl : l < n) (hv : LV s l m) (hP : PA s P A ax ay V H wx wy) : ∃ v s', mX9_areSomeNear 207 (nI l) s1 = some (v, s') ∧ Scr s1 s' ∧ TD s' V H wx wy ∧ ((v = 1 ∧ cW10 s l m V H wx wy) ∨ (v = 0 ∧ ¬ cW10 s l m V H wx wy)) := by
  have hM := hr.1.m
  obtain ⟨hl12, hm, z1, z2, z3, z9, -, z4⟩ := id hv
  have hp := fun i hi => hr.lgi hn e hl hv (i := i) hi
  have Nn : ∀ i, (∃ a b, a < b ∧ (b < i ∨ (b = i ∧ a < i)) ∧ bad s l V H wx wy a b) ↔ (∃ a b, a < b ∧ (b < i + 1 ∨ (b = i + 1 ∧ a < 0)) ∧ bad s l V H wx wy a b) := fun i => ⟨fun ⟨a, b, h1, h2, h3⟩ => ⟨a, b, h1, by omega, h3⟩, fun ⟨a, b, h1, h2, h3⟩ => ⟨a, b, h1, by omega, h3⟩⟩
  refine lp_inv (F := mX9_areSomeNear_b4 207 (nI l)) (n := m) (I := fun i q s' => Scr s1 s' ∧ TD s' V H wx wy ∧ q.2 = nI i ∧ ((q.1 = 1 ∧ (∃ a b, a < b ∧ (b < i ∨ (b = i ∧ a < 0)) ∧ bad s l V H wx wy a b)) ∨ (q.1 = 0 ∧ ¬ (∃ a b, a < b ∧ (b < i ∨ (b = i ∧ a < 0)) ∧ bad s l V H wx wy a b)))) (Q := fun x => ∃ v s', x = some (v, s') ∧ Scr s1 s' ∧ TD s' V H wx wy ∧ ((v = 1 ∧ cW10 s l m V H wx wy) ∨ (v = 0 ∧ ¬ cW10 s l m V H wx wy))) (fun q s' r h => ?_) (fun i q s' r hi h hr' => ?_) FU 0 (Nat.zero_le _) (show m - 0 < 4000 by omega) _ _ ⟨Scr.rf (s := s1), hT, rfl, Or.inr ⟨rfl, fun ⟨a, b, h1, h2, _⟩ => by omega⟩⟩
  · obtain ⟨q1, q2⟩ := q
    obtain ⟨c1, c2, c3, c4⟩ := h
    dsimp only at c3 c4
    subst c3
    have hS' := hS.tr c1
    have hM' := hS'.1
    have hN' := hM'.1
    refine ⟨q1, s', ?_, c1, c2, ?_⟩
    · unfold mX9_areSomeNear_b4
      rw [mR hM' 22 228 rfl (by decide) (by decide), alI_n (show l < ln 228 from hl12) (by decide) (by rw [hN']; decide), hS'.eq (a := 228) (by omega), z1, if_pos (Int32.le_refl _)]
      dsimp only
      rcases c4 with ⟨rfl, -⟩ | ⟨rfl, -⟩
      · rfl
      · rfl
    · rcases c4 with ⟨c5, a, b, h1, h2, h3⟩ | ⟨c5, h⟩
      · exact Or.inl ⟨c5, a, by omega, b, h1, by omega, h3⟩
      · exact Or.inr ⟨c5, fun ⟨a, h1, b, h2, h3, h4⟩ => h ⟨a, b, h2, Or.inl h3, h4⟩⟩
  · obtain ⟨q1, q2⟩ := q
    obtain ⟨c1, c2, c3, c4⟩ := h
    dsimp only at c3 c4
    subst c3
    have hS' := hS.tr c1
    have hM' := hS'.1
    have hN' := hM'.1
    unfold mX9_areSomeNear_b4
    rw [mR hM' 22 228 rfl (by decide) (by decide), alI_n (show l < ln 228 from hl12) (by decide) (by rw [hN']; decide), hS'.eq (a := 228) (by omega), z1]
    dsimp only
    rw [if_neg (nI_ge hi (by omega))]
    refine lp_inv (F := mX9_areSomeNear_b17 (q1, nI i) r 207 (nI l)) (n := i) (I := fun j q s' => Scr s1 s' ∧ TD s' V H wx wy ∧ q.2 = nI j ∧ ((q.1 = 1 ∧ (∃ a b, a < b ∧ (b < i ∨ (b = i ∧ a < j)) ∧ bad s l V H wx wy a b)) ∨ (q.1 = 0 ∧ ¬ (∃ a b, a < b ∧ (b < i ∨ (b = i ∧ a < j)) ∧ bad s l V H wx wy a b)))) (Q := fun x => ∃ v s', x = some (v, s') ∧ Scr s1 s' ∧ TD s' V H wx wy ∧ ((v = 1 ∧ cW10 s l m V H wx wy) ∨ (v = 0 ∧ ¬ cW10 s l m V H wx wy))) (fun q s' r' h => ?_) (fun j q s' r' hj h hr2 => ?_) FU 0 (Nat.zero_le _) (show i - 0 < 4000 by omega) _ _ ⟨c1, c2, rfl, c4⟩
    · obtain ⟨t1, t2⟩ := q
      obtain ⟨d1, d2, d3, d4⟩ := h
      dsimp only at d3 d4
      subst d3
      unfold mX9_areSomeNear_b17
      dsimp only
      rw [if_pos (Int32.le_refl _), nI_1]
      refine hr' _ _ ⟨d1, d2, rfl, ?_⟩
      rw [← Nn i]
      exact d4
    · obtain ⟨t1, t2⟩ := q
      obtain ⟨d1, d2, d3, d4⟩ := h
      dsimp only at d3 d4
      subst d3
      have hS2 := hS.tr d1
      have hN2 : sN s' = 249 := hS2.1.1
      unfold mX9_areSomeNear_b17
      dsimp only
      rw [if_neg (nI_ge hj (by omega))]
      rcases d4 with ⟨rfl, d4⟩ | ⟨rfl, d4⟩
      · rw [if_pos (by decide), nI_1]
        refine hr2 _ _ ⟨d1, d2, rfl, Or.inl ⟨rfl, ?_⟩⟩
        obtain ⟨a, b, h1, h2, h3⟩ := d4
        exact ⟨a, b, h1, by omega, h3⟩
      · obtain ⟨s3, g1, g2, g3⟩ := mNearOf (i := i) (j := j) hr hS2 d2 hP hv hi (by omega) (hp j (by omega)).1 (hp i hi).1 (by rw [Nat.min_eq_right (by omega)]; exact (hp j (by omega)).2.1) (by rw [Nat.max_eq_left (by omega)]; exact (hp i hi).2.1)
        rw [Nat.min_eq_right (by omega), Nat.max_eq_left (by omega)] at g1
        have hS3 := hS2.tr g2
        have hN3 : sN s3 = 249 := hS3.1.1
        rw [if_neg (by decide), c9 hN2, g1, cl_some, c9 hN3, isFree_ok hS3.1 hS3, cl_some]
        by_cases hc : nG s V H wx wy (pgi s l j) (pgi s l i) (pN s l i - pN s l j) < RR s
        · rw [if_pos hc, if_neg (by decide), nI_1]
          exact hr2 _ _ ⟨d1.tr g2, g3, rfl, Or.inl ⟨rfl, j, i, hj, by omega, hc⟩⟩
        · rw [if_neg hc, if_pos (by decide), nI_1]
          refine hr2 _ _ ⟨d1.tr g2, g3, rfl, Or.inr ⟨rfl, fun ⟨a, b, h1, h2, h3⟩ => ?_⟩⟩
          by_cases hab : b = i ∧ a = j
          · obtain ⟨rfl, rfl⟩ := hab
            exact hc h3
          · exact d4 ⟨a, b, h1, by omega, h3⟩
theorem home_iff (hr : Rel s) (hn : n < 13) (e : sI s 207 20 = nI n) (hl : l < n) (hv : LV s l m) (hP : PA s P A ax ay V H wx wy) (hst : btw (sI s 231 l) (-50000) 50000) (hi : i < m) : ((Int32.toInt64 (sI s 231 l + V * nI (pN s l i) + gwX s (pgi s l i) V H wx (gOD s (pgi s l i) H).2) * Int32.toInt64 (sI s 231 l + V * nI (pN s l i) + gwX s (pgi s l i) V H wx (gOD s (pgi s l i) H).2)) + (gyd s (pgi s l i) H wy * gyd s (pgi s l i) H wy)).toInt ≤ (rch s (pgi s l i) H * rch s (pgi s l i) H).toInt ↔ ¬ (rst s (pgi s l i) H wy).toInt < ((sI s 231 l).toInt + dri s l V H wx i) * ((sI s 231 l).toInt + dri s l V H wx i) := by
  obtain ⟨g1, g2, g3⟩ := hr.lgi hn e hl hv hi
  obtain ⟨b1, b2, b3, b4, b5⟩ := dri_b hr hn e hl hv hP hi
  obtain ⟨t1, t2, t3, t4, t5, t6, t7, t8, t9⟩ := rst_b hr hP g1
  unfold btw at hst
  have ex : (gwX s (pgi s l i) V H wx (gOD s (pgi s l i) H).2).toInt = gxd s (pgi s l i) V H wx := rfl
  have ea : (sI s 231 l + V * nI (pN s l i)).toInt = (sI s 231 l).toInt + V.toInt * (pN s l i : Int) := by
    rw [add_B (by rw [b2]; omega) (by rw [b2]; omega), b2]
  have eX : (Int32.toInt64 (sI s 231 l + V * nI (pN s l i) + gwX s (pgi s l i) V H wx (gOD s (pgi s l i) H).2)).toInt = (sI s 231 l).toInt + dri s l V H wx i := by
    rw [t64, add_B (by rw [ea, ex]; omega) (by rw [ea, ex]; omega), ea, ex]
    unfold dri
    omega
  have hdb : -3000000 ≤ dri s l V H wx i ∧ dri s l V H wx i ≤ 2000000 := by
    unfold dri
    omega
  generalize Int32.toInt64 (sI s 231 l + V * nI (pN s l i) + gwX s (pgi s l i) V H wx (gOD s (pgi s l i) H).2) = X at eX
  rw [← eX]
  have c1 := sq_b (a := X.toInt) (M := 4000000) (by omega) (by omega)
  have c2 := sq_b (a := (gyd s (pgi s l i) H wy).toInt) (M := 1000000) (by omega) (by omega)
  have q1 : (X * X).toInt = X.toInt * X.toInt := muL_B (by omega) (by omega)
  rw [adL_B (by rw [q1, t6]; omega) (by rw [q1, t6]; omega), q1, t6, t5]
  omega
theorem cHome (hr : Rel s) (hS : Scr s s1) (hn : n < 13) (e : sI s 207 20 = nI n) (hl : l < n) (hv : LV s l m) (hP : PA s P A ax ay V H wx wy) (e4 : sR s (99 + 7 * l) 4 = some P) (hst : btw (sI s 231 l) (-50000) 50000) (hg : ∀ i, i < m → GW s s1 (183 + 4 * i) (pgi s l i) V H wx wy) : (cW11 s l m V H wx wy → mX8_allHome 0 (some (99 + 7 * l)) s1 = some (0, s1)) ∧ (¬ cW11 s l m V H wx wy → mX8_allHome 0 (some (99 + 7 * l)) s1 = some (1, s1)) := by
  have hN1 := (hr.scr hS).1.1
  have hR : sR s1 = sR s := hS.2.1
  have hv1 := hv.scr hS
  obtain ⟨hl12, hm, z1, z2, z3, z9, hM, z4⟩ := id hv1
  obtain ⟨k1, k2, k3, k4, k5, -⟩ := kdLo l hl12
  have stp : ∀ i, i < m → ∀ r, mX8_allHome_b2 (some (99 + 7 * l)) 0 r (nI i) s1 = if (rst s (pgi s l i) H wy).toInt < ((sI s 231 l).toInt + dri s l V H wx i) * ((sI s 231 l).toInt + dri s l V H wx i) then some (0, s1) else r (nI i + 1) s1 := by
    intro i hi r
    obtain ⟨g1, g2, g3⟩ := hr.lgi hn e hl hv hi
    obtain ⟨f1, f2, f3, f4, f5, f6⟩ := fall_ref hr.1 (i := i) (by omega)
    have hgi := hg i hi
    have kf1 := f1.1
    have kf9 := f1.2.2.2.2.2.2.2.2
    have eY : Int32.toInt64 (gwY s (pgi s l i) H wy (gOD s (pgi s l i) H).2) = gyd s (pgi s l i) H wy := rfl
    have hh := home_iff hr hn e hl hv hP hst hi
    unfold mX8_allHome_b2
    rw [gdI_at k1 (by omega), z2, if_neg (nI_ge hi (by omega)), cv_at k1 (by omega), cLeav hr hS hv hP e4 hi, cl_some, dR hN1, hR, f6, alR_n (show i < ln 10 from show i < 6 by omega) (by decide) (by omega), hR, f5, cv_at kf1 (by omega), hgi.downX, cl_some, dR hN1, hR, f6, alR_n (show i < ln 10 from show i < 6 by omega) (by decide) (by omega), hR, f5, cv_at kf1 (by omega), hgi.downY, cl_some, gdR_at k1 (by omega), z3, alR_n (show i < ln _ by omega) k2 (by omega), hR, g3, dR hN1, hR, f6, alR_n (show i < ln 10 from show i < 6 by omega) (by decide) (by omega), hR, f5, c8 hN1, reach_ok hr hS g1 hgi, cl_some, eY]
    by_cases hc : (rst s (pgi s l i) H wy).toInt < ((sI s 231 l).toInt + dri s l V H wx i) * ((sI s 231 l).toInt + dri s l V H wx i)
    · rw [if_pos hc, if_neg (fun z => (hh.1 (lgc_le.mp z)) hc)]
      rfl
    · rw [if_neg hc, if_pos (lgc_le.mpr (hh.2 hc))]
  have hb := bo_any (F := mX8_allHome_b2 (some (99 + 7 * l)) 0) (s := s1) (n := m) (c := fun i => (rst s (pgi s l i) H wy).toInt < ((sI s 231 l).toInt + dri s l V H wx i) * ((sI s 231 l).toInt + dri s l V H wx i)) (E := fun v => if v = 0 then some (1, s1) else some (0, s1)) (fun r => ?_) (fun k hk hc r => ?_) (fun k hk hc r => ?_) FU 0 (Nat.zero_le _) (show m - 0 < 4000 by omega)
  · refine ⟨fun ⟨i, a, b⟩ => ?_, fun z => ?_⟩
    · have := hb.1 ⟨i, Nat.zero_le _, a, b⟩
      dsimp only at this
      rw [if_neg (by decide)] at this
      exact this
    · have := hb.2 (fun ⟨i, _, a, b⟩ => z ⟨i, a, b⟩)
      dsimp only at this
      rw [if_pos rfl] at this
      exact this
  · unfold mX8_allHome_b2
    rw [gdI_at k1 (by omega), z2, if_pos (Int32.le_refl _), if_pos rfl]
    rfl
  · rw [stp k hk r, if_pos hc, if_neg (by decide)]
  · rw [stp k hk r, if_neg hc]
theorem mSomeOut (hr : Rel s) (hS : MEq s s1) (hT : TD s1 V H wx wy) (hn : n < 13) (e : sI s 207 20 = nI n) (hl : l < n) (hv : LV s l m) (hP : PA s P A ax ay V H wx wy) (hst : btw (sI s 231 l) (-50000) 50000) : ∃ v s', mX9_isSomeOut 207 (nI l) s1 = some (v, s') ∧ Scr s1 s' ∧ TD s' V H wx wy ∧ ((v = 1 ∧ cW11 s l m V H wx wy) ∨ (v = 0 ∧ ¬ cW11 s l m V H wx wy)) := by
  have hM := hr.1.m
  have hN1 : sN s1 = 249 := hS.1.1
  have hl12 := hv.1
  obtain ⟨s', a1, a2, a3, a4⟩ := findStarts_ok hr hS hT hn e hl hv hP
  have hS' := hS.tr a2
  have hM' := hS'.1
  have hN' := hM'.1
  have run : mX9_isSomeOut 207 (nI l) s1 = some (if (sL s' 207 46).toInt ≤ (sI s 231 l).toInt ∧ (sI s 231 l).toInt ≤ (sL s' 207 47).toInt then 0 else 1, s') := by
    unfold mX9_isSomeOut
    rw [c9 hN1, a1, cl_some, mR hM' 25 231 rfl (by decide) (by decide), alI_n (show l < ln 231 from hl12) (by decide) (by rw [hN']; decide), hS'.eq (a := 231) (by omega), mL' hN', mL' hN', in_if, cl_some, t64]
    by_cases hc : (sL s' 207 46).toInt ≤ (sI s 231 l).toInt ∧ (sI s 231 l).toInt ≤ (sL s' 207 47).toInt
    · rw [if_pos hc, if_pos hc, if_pos (by decide)]; rfl
    · rw [if_neg hc, if_neg hc, if_neg (by decide)]; rfl
  refine ⟨_, s', run, a2, a3, ?_⟩
  unfold btw at hst
  rcases a4 with ⟨x1, x2, x3⟩ | ⟨⟨i, hi, x1⟩, x2⟩
  · have key : ((sL s' 207 46).toInt ≤ (sI s 231 l).toInt ∧ (sI s 231 l).toInt ≤ (sL s' 207 47).toInt) ↔ ¬ cW11 s l m V H wx wy := by
      rw [x2, x3, sLo_le, sHi_ge]
      refine ⟨fun ⟨⟨_, h1⟩, ⟨_, h2⟩⟩ ⟨i, hi, h3⟩ => ?_, fun h => ?_⟩
      · obtain ⟨w1, w2, w3⟩ := wid_b hr hP (hr.lgi hn e hl hv hi).1 (x1 i hi)
        have h1i := h1 i hi
        have h2i := h2 i hi
        have := (abs_sq (x := (sI s 231 l).toInt + dri s l V H wx i) (by omega) w2 w3).1 ⟨by omega, by omega⟩
        omega
      · have h4 : ∀ i, i < m → -(dri s l V H wx i) - (wid s (pgi s l i) H wy : Int) ≤ (sI s 231 l).toInt ∧ (sI s 231 l).toInt ≤ -(dri s l V H wx i) + (wid s (pgi s l i) H wy : Int) := fun i hi => by
          obtain ⟨w1, w2, w3⟩ := wid_b hr hP (hr.lgi hn e hl hv hi).1 (x1 i hi)
          have h5 : ¬ (rst s (pgi s l i) H wy).toInt < ((sI s 231 l).toInt + dri s l V H wx i) * ((sI s 231 l).toInt + dri s l V H wx i) := fun z => h ⟨i, hi, z⟩
          have := (abs_sq (x := (sI s 231 l).toInt + dri s l V H wx i) (by omega) w2 w3).2 (by omega)
          omega
        exact ⟨⟨hst.1, fun i hi => (h4 i hi).1⟩, ⟨hst.2, fun i hi => (h4 i hi).2⟩⟩
    by_cases hc : (sL s' 207 46).toInt ≤ (sI s 231 l).toInt ∧ (sI s 231 l).toInt ≤ (sL s' 207 47).toInt
    · rw [if_pos hc]
      exact Or.inr ⟨rfl, key.1 hc⟩
    · rw [if_neg hc]
      exact Or.inl ⟨rfl, Classical.byContradiction (fun z => hc (key.2 z))⟩
  · rw [if_neg (by omega)]
    refine Or.inl ⟨rfl, i, hi, ?_⟩
    have hq : ∀ a : Int, 0 ≤ a * a := fun a => by
      rcases Int.le_total 0 a with h | h
      · exact Int.mul_nonneg h h
      · exact Int.mul_nonneg_of_nonpos_of_nonpos h h
    have := hq ((sI s 231 l).toInt + dri s l V H wx i)
    omega
end WW
