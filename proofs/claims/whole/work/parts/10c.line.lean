theorem insF_o {v : Nat} : ∀ (p : Nat) (F : Nat → Nat) (k : Nat), p < k → insF v p F k = F k
  | 0, F, k, hk => if_neg (by omega)
  | p + 1, F, k, hk => by
    show (if F p ≤ v then upN F (p + 1) v else insF v p (upN F (p + 1) (F p))) k = F k
    by_cases hc : F p ≤ v
    · rw [if_pos hc]
      exact if_neg (by omega)
    · rw [if_neg hc, insF_o p _ k (by omega)]
      exact if_neg (by omega)
theorem insF_cg {v : Nat} : ∀ (p : Nat) (F G : Nat → Nat), (∀ k, k < p → F k = G k) → ∀ k, k < p + 1 → insF v p F k = insF v p G k
  | 0, F, G, _, k, hk => by
    have : k = 0 := by omega
    subst this
    rfl
  | p + 1, F, G, h, k, hk => by
    show (if F p ≤ v then upN F (p + 1) v else insF v p (upN F (p + 1) (F p))) k = (if G p ≤ v then upN G (p + 1) v else insF v p (upN G (p + 1) (G p))) k
    rw [h p (by omega)]
    by_cases hc : G p ≤ v
    · rw [if_pos hc, if_pos hc]
      unfold upN
      by_cases hkp : k = p + 1
      · rw [if_pos hkp, if_pos hkp]
      · rw [if_neg hkp, if_neg hkp]
        exact h k (by omega)
    · rw [if_neg hc, if_neg hc]
      have hu : ∀ q, q < p → upN F (p + 1) (G p) q = upN G (p + 1) (G p) q := fun q hq => by
        unfold upN
        rw [if_neg (by omega), if_neg (by omega)]
        exact h q (by omega)
      by_cases hkp : k = p + 1
      · subst hkp
        have e1 := insF_o (v := v) p (upN F (p + 1) (G p)) (p + 1) (by omega)
        have e2 := insF_o (v := v) p (upN G (p + 1) (G p)) (p + 1) (by omega)
        rw [e1, e2]
        unfold upN
        rw [if_pos rfl, if_pos rfl]
      · exact insF_cg p _ _ hu k (by omega)
section BEG
variable {s : Sg} {v i l : Nat}
theorem ins_ok {r5 : Int32 → Sg → Option (Unit × Sg)} (hi : i < 6) (hv : v < 1000) : ∀ (p : Nat) (F : Nat → Nat) (s : Sg) (f : Nat), sN s = 249 → sR s 11 1 = some 13 → p ≤ i → (∀ k, k < i + 1 → F k < 1000) → (∀ k, k < i + 1 → k ≠ p → sI s 13 k = nI (F k)) → p < f → ∃ s', lp (mX4_begin_b31 11 (nI v) r5 (nI i)) f (nI p) s = r5 (nI i + 1) s' ∧ On s s' 13 ∧ RW s' 13 (insF v p F) (i + 1)
  | p, F, s, f, hN, q1, hp, hF, hR, hf => by
    obtain ⟨f, rfl⟩ : ∃ g, f = g + 1 := ⟨f - 1, by omega⟩
    have put : ∀ k, k < 6 → (gdR s 4 1 (some 11) fun v16 => asI s v16 (nI k) (nI v) fun s17 => r5 (nI i + 1) s17) = r5 (nI i + 1) (uI s 13 k (nI v)) := fun k hk => by
      rw [gdR_at (by decide) (by rw [hN]; decide), q1, asI_n (show k < ln 13 from hk) (by decide) (by rw [hN]; decide)]
    have putR : RW (uI s 13 p (nI v)) 13 (upN F p v) (i + 1) := fun k hk => by
      unfold upN
      rw [sI_if]
      by_cases hkp : k = p
      · rw [if_pos ⟨rfl, hkp⟩, if_pos hkp]
      · rw [if_neg (fun z => hkp z.2), if_neg hkp]
        exact hR k hk hkp
    cases p with
    | zero =>
      refine ⟨uI s 13 0 (nI v), ?_, On.u, putR⟩
      show mX4_begin_b31 11 (nI v) r5 (nI i) (lp (mX4_begin_b31 11 (nI v) r5 (nI i)) f) (nI 0) s = _
      unfold mX4_begin_b31
      rw [jn_eq, if_pos (show nI 0 ≤ 0 by decide)]
      exact put 0 (by omega)
    | succ p =>
      have hFp := hF p (by omega)
      have ih : ¬ F p ≤ v → ∃ s', lp (mX4_begin_b31 11 (nI v) r5 (nI i)) f (nI p) (uI s 13 (p + 1) (nI (F p))) = r5 (nI i + 1) s' ∧ On (uI s 13 (p + 1) (nI (F p))) s' 13 ∧ RW s' 13 (insF v p (upN F (p + 1) (F p))) (i + 1) := fun _ => ins_ok hi hv p (upN F (p + 1) (F p)) (uI s 13 (p + 1) (nI (F p))) f hN q1 (by omega) (fun k hk => by
        unfold upN
        by_cases hkp : k = p + 1
        · rw [if_pos hkp]; exact hFp
        · rw [if_neg hkp]; exact hF k hk) (fun k hk hkp => by
        unfold upN
        rw [sI_if]
        by_cases hkq : k = p + 1
        · rw [if_pos ⟨rfl, hkq⟩, if_pos hkq]
        · rw [if_neg (fun z => hkq z.2), if_neg hkq]
          exact hR k hk hkq) (by omega)
      have ei : insF v (p + 1) F = if F p ≤ v then upN F (p + 1) v else insF v p (upN F (p + 1) (F p)) := rfl
      show ∃ s', mX4_begin_b31 11 (nI v) r5 (nI i) (lp (mX4_begin_b31 11 (nI v) r5 (nI i)) f) (nI (p + 1)) s = r5 (nI i + 1) s' ∧ _
      generalize lp (mX4_begin_b31 11 (nI v) r5 (nI i)) f = rec at ih ⊢
      unfold mX4_begin_b31
      rw [jn_eq, if_neg (nI_nle (by omega) (by omega)), gdR_at (by decide) (by rw [hN]; decide), q1, nI_pred, alI_n (show p < ln 13 from show p < 6 by omega) (by decide) (by rw [hN]; decide), hR p (by omega) (by omega), ei]
      by_cases hc : F p ≤ v
      · rw [if_pos (nI_le hc (by omega)), if_pos hc]
        exact ⟨_, put (p + 1) (by omega), On.u, putR⟩
      · rw [if_neg (nI_ge (by omega) (by omega)), if_neg hc, gdR_at (by decide) (by rw [hN]; decide), q1, gdR_at (by decide) (by rw [hN]; decide), q1, alI_n (show p < ln 13 from show p < 6 by omega) (by decide) (by rw [hN]; decide), hR p (by omega) (by omega), asI_n (show p + 1 < ln 13 from show p + 1 < 6 by omega) (by decide) (by rw [hN]; decide), nIm]
        obtain ⟨s', a1, a2, a3⟩ := ih hc
        exact ⟨s', a1, On.u.tr a2, a3⟩
theorem srt_b {g : Nat → Nat} {n : Nat} (hg : ∀ i, i < n → g i < 20) (hd : ∀ i, i < n → ∀ j, j < i → g j ≠ g i) {i : Nat} (hi : i ≤ n) : ∀ k, k < i → srtF g i k < 20 := fun k hk => by
  obtain ⟨j, hj, e⟩ := (srtF_sp i (fun a ha => hd a (by omega))).2 k hk
  rw [e]
  exact hg j (by omega)
/-- the row as it begins -/
theorem begin_ok {n : Nat} {g : Nat → Nat} (hN : sN s = 249) (q1 : sR s 11 1 = some 13) (hl : l < 12) (hn : n < 7) (h6 : sI s (99 + 7 * l) 6 = nI n) (hgr : sR s (99 + 7 * l) 0 = some (100 + 7 * l)) (hg : ∀ i, i < n → g i < 20 ∧ sR s (100 + 7 * l) i = some (56 + 2 * g i) ∧ sI s (56 + 2 * g i) 0 = nI (g i)) (hd : ∀ i, i < n → ∀ j, j < i → g j ≠ g i) : ∃ s', mX4_begin 11 (some (99 + 7 * l)) s = some ((), s') ∧ On (uI s 11 3 (nI n)) s' 13 ∧ RW s' 13 (srtF g n) n := by
  obtain ⟨k1, k2, k3, k4, k5, -⟩ := kdLo l hl
  unfold mX4_begin
  rw [gdI_at k1 (by omega), h6, ptI_at (by decide) (by rw [hN]; decide)]
  refine lp_inv (F := mX4_begin_b10 11 (some (99 + 7 * l))) (n := n) (I := fun i q s' => q = nI i ∧ On (uI s 11 3 (nI n)) s' 13 ∧ RW s' 13 (srtF g i) i) (Q := fun x => ∃ s', x = some ((), s') ∧ On (uI s 11 3 (nI n)) s' 13 ∧ RW s' 13 (srtF g n) n) (fun q s' r h => ?_) (fun i q s' r hi h hr => ?_) FU 0 (Nat.zero_le _) (show n - 0 < 4000 by omega) _ _ ⟨rfl, On.rf, fun k hk => absurd hk (Nat.not_lt_zero k)⟩
  · obtain ⟨rfl, c1, c2⟩ := h
    have hN' : sN s' = 249 := c1.1.trans hN
    refine ⟨s', ?_, c1, c2⟩
    unfold mX4_begin_b10
    rw [gdI_at (by decide) (by rw [hN']; decide), c1.2.2.2 11 3 (by decide), sI_s, if_pos (Int32.le_refl _)]
  · obtain ⟨rfl, c1, c2⟩ := h
    have hN' : sN s' = 249 := c1.1.trans hN
    have hR' : sR s' = sR s := c1.2.1
    obtain ⟨g1, g2, g3⟩ := hg i hi
    have hb := srt_b (fun i hi => (hg i hi).1) hd (i := i) (by omega)
    obtain ⟨s2, a1, a2, a3⟩ := ins_ok (r5 := r) (v := g i) (i := i) (by omega) (by omega) i (fun k => if k < i then srtF g i k else 0) s' FU hN' (by rw [hR']; exact q1) (Nat.le_refl _) (fun k hk => by
      by_cases hki : k < i
      · rw [if_pos hki]; have := hb k hki; omega
      · rw [if_neg hki]; omega) (fun k hk hki => by
      rw [if_pos (by omega)]
      exact c2 k (by omega)) (show i < 4000 by omega)
    have e3 : sI s' (56 + 2 * g i) 0 = nI (g i) := by
      rw [c1.2.2.2 _ _ (by omega), sI_ne (by omega)]
      exact g3
    unfold mX4_begin_b10
    rw [gdI_at (by decide) (by rw [hN']; decide), c1.2.2.2 11 3 (by decide), sI_s, if_neg (nI_ge hi (by omega)), gdR_at k1 (by omega), hR', hgr, alR_n (show i < ln _ by omega) k2 (by omega), hR', g2, gdI_at (kdGr _ g1).1 (by omega), e3, a1, nI_1]
    refine hr _ _ ⟨rfl, c1.tr a2, a3.cg (fun k hk => ?_)⟩
    exact insF_cg i _ _ (fun q hq => if_pos hq) k hk
end BEG
