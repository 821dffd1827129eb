/-! THE REFERENCE'S ORDERS -/
theorem M0.on {s s' : Sg} {c : Nat} (h : M0 s) (ho : On s s' c) : M0 s' := ⟨ho.1.trans h.1, by rw [ho.2.1]; exact h.2⟩
theorem On.sc {s s' : Sg} {c : Nat} (h : On s s' c) (hc : 237 ≤ c) : Scr s s' := h.toS (Or.inr hc)
theorem nIm2 (k : Nat) : nI (k + 1) + (-1) = nI k := nIm k
section NXM
variable {s : Sg} {n : Nat} {F : Nat → Nat}
theorem msw {β : Type} {i j : Nat} (hM : M0 s) (hn : n < 7) (h : RW s 247 F n) (hi : i < n) (hj : j < n) (K : Sg → Option β) : (gdR s 9 44 (some 207) fun v14 => alI s v14 (nI i) fun v15 => gdR s 9 44 (some 207) fun v16 => gdR s 9 44 (some 207) fun v17 => alI s v17 (nI j) fun v18 => asI s v16 (nI i) v18 fun s19 => gdR s19 9 44 (some 207) fun v20 => asI s19 v20 (nI j) v15 fun s21 => K s21) = K (uI (uI s 247 i (nI (F j))) 247 j (nI (F i))) := by
  have hN := hM.1
  rw [mR hM 44 247 rfl (by decide) (by decide), alI_n (show i < ln 247 from show i < 6 by omega) (by decide) (by omega), h i hi, mR hM 44 247 rfl (by decide) (by decide), mR hM 44 247 rfl (by decide) (by decide), alI_n (show j < ln 247 from show j < 6 by omega) (by decide) (by omega), h j hj, asI_n (show i < ln 247 from show i < 6 by omega) (by decide) (by omega), mR hM.uI 44 247 rfl (by decide) (by decide), asI_n (show j < ln 247 from show j < 6 by omega) (by decide) (by rw [sN_uI]; omega)]
theorem mrev_ok (hn : n < 7) : ∀ (u : Nat) (F : Nat → Nat) (s : Sg) (lo hi f : Nat), M0 s → RW s 247 F n → hi < n → lo ≤ n → hi ≤ lo + 2 * u → u < f → ∃ s', lp (mX9_nextOrder_b100 207) f (nI lo, nI hi) s = some (1, s') ∧ RW s' 247 (rvF u F lo hi) n ∧ On s s' 247
  | u, F, s, lo, hi, f, hM, hR, hh, hlo, hu, hf => by
    obtain ⟨f, rfl⟩ : ∃ g, f = g + 1 := ⟨f - 1, by omega⟩
    show ∃ s', mX9_nextOrder_b100 207 (lp (mX9_nextOrder_b100 207) f) (nI lo, nI hi) s = some (1, s') ∧ _
    by_cases hc : hi ≤ lo
    · refine ⟨s, ?_, ?_, On.rf⟩
      · unfold mX9_nextOrder_b100
        dsimp only
        rw [if_pos (nI_le hc (by omega))]
        rfl
      · cases u with
        | zero => exact hR
        | succ u =>
          show RW s 247 (if hi ≤ lo then F else rvF u (sw F lo hi) (lo + 1) (hi - 1)) n
          rw [if_pos hc]
          exact hR
    · obtain ⟨u, rfl⟩ : ∃ v, u = v + 1 := ⟨u - 1, by omega⟩
      obtain ⟨hi, rfl⟩ : ∃ v, hi = v + 1 := ⟨hi - 1, by omega⟩
      obtain ⟨w1, w2⟩ := swp (i := lo) (j := hi + 1) hR
      obtain ⟨s', a1, a2, a3⟩ := mrev_ok hn u (sw F lo (hi + 1)) (uI (uI s 247 lo (nI (F (hi + 1)))) 247 (hi + 1) (nI (F lo))) (lo + 1) hi f (hM.on w2) w1 (by omega) (by omega) (by omega) (by omega)
      refine ⟨s', ?_, ?_, w2.tr a3⟩
      · generalize lp (mX9_nextOrder_b100 207) f = rec at a1 ⊢
        unfold mX9_nextOrder_b100
        dsimp only
        rw [if_neg (nI_ge (by omega) (by omega)), msw hM hn hR (by omega) hh, nI_1, nIm]
        exact a1
      · show RW s' 247 (if hi + 1 ≤ lo then F else rvF u (sw F lo (hi + 1)) (lo + 1) (hi + 1 - 1)) n
        rw [if_neg hc]
        exact a2
theorem mgr_ok {i : Nat} (hM : M0 s) (hn : n < 7) (hR : RW s 247 F n) (hB : ∀ k, k < n → F k < 1000) (hi : i + 1 < n) (hst : ¬ F (i + 1) < F i) : ∀ (j f : Nat), i + 1 ≤ j → j < n → j < f → ∃ s', lp (mX9_nextOrder_b41 207 (nI i) (nI n)) f (nI j) s = some (1, s') ∧ RW s' 247 (rvF n (sw F i (grF F i j)) (i + 1) (n - 1)) n ∧ On s s' 247
  | j, f, h1, h2, hf => by
    obtain ⟨f, rfl⟩ : ∃ g, f = g + 1 := ⟨f - 1, by omega⟩
    obtain ⟨j, rfl⟩ : ∃ v, j = v + 1 := ⟨j - 1, by omega⟩
    have hN := hM.1
    have hbi := hB i (by omega)
    have hbj := hB (j + 1) h2
    have eg : grF F i (j + 1) = if j + 1 ≤ i + 1 then j + 1 else if F (j + 1) < F i then grF F i j else j + 1 := rfl
    have e1 : nI n - 1 = nI (n - 1) := pk_sub (b := 1) (by omega)
    have stop : ∃ s', lp (mX9_nextOrder_b100 207) FU ((nI i + 1), (nI n - 1)) (uI (uI s 247 i (nI (F (j + 1)))) 247 (j + 1) (nI (F i))) = some (1, s') ∧ RW s' 247 (rvF n (sw F i (j + 1)) (i + 1) (n - 1)) n ∧ On s s' 247 := by
      obtain ⟨w1, w2⟩ := swp (i := i) (j := j + 1) hR
      obtain ⟨s', a1, a2, a3⟩ := mrev_ok hn n (sw F i (j + 1)) (uI (uI s 247 i (nI (F (j + 1)))) 247 (j + 1) (nI (F i))) (i + 1) (n - 1) FU (hM.on w2) w1 (by omega) (by omega) (by omega) (show n < 4000 by omega)
      refine ⟨s', ?_, a2, w2.tr a3⟩
      rw [nI_1, e1]
      exact a1
    have ih : i + 1 ≤ j → ∃ s', lp (mX9_nextOrder_b41 207 (nI i) (nI n)) f (nI j) s = some (1, s') ∧ RW s' 247 (rvF n (sw F i (grF F i j)) (i + 1) (n - 1)) n ∧ On s s' 247 := fun z => mgr_ok hM hn hR hB hi hst j f z (by omega) (by omega)
    show ∃ s', mX9_nextOrder_b41 207 (nI i) (nI n) (lp (mX9_nextOrder_b41 207 (nI i) (nI n)) f) (nI (j + 1)) s = some (1, s') ∧ _
    generalize lp (mX9_nextOrder_b41 207 (nI i) (nI n)) f = rec at ih ⊢
    have run : mX9_nextOrder_b41 207 (nI i) (nI n) rec (nI (j + 1)) s = if F (j + 1) < F i then rec (nI j) s else lp (mX9_nextOrder_b100 207) FU ((nI i + 1), (nI n - 1)) (uI (uI s 247 i (nI (F (j + 1)))) 247 (j + 1) (nI (F i))) := by
      unfold mX9_nextOrder_b41
      rw [mR hM 44 247 rfl (by decide) (by decide), alI_n (show j + 1 < ln 247 from show j + 1 < 6 by omega) (by decide) (by omega), hR _ h2, mR hM 44 247 rfl (by decide) (by decide), alI_n (show i < ln 247 from show i < 6 by omega) (by decide) (by omega), hR i (by omega), msw hM hn hR (by omega) h2]
      by_cases hd : F (j + 1) < F i
      · rw [if_neg (nI_ge hd (by omega)), if_pos hd, nIm]
      · rw [if_pos (nI_le (by omega) (by omega)), if_neg hd]
    rw [run, eg]
    by_cases hc : j + 1 ≤ i + 1
    · have hji : j = i := by omega
      subst hji
      rw [if_neg hst, if_pos hc]
      exact stop
    · rw [if_neg hc]
      by_cases hd : F (j + 1) < F i
      · rw [if_pos hd, if_pos hd]
        exact ih (by omega)
      · rw [if_neg hd, if_neg hd]
        exact stop
theorem mris_ok (hM : M0 s) (hn : n < 7) (hR : RW s 247 F n) (hB : ∀ k, k < n → F k < 1000) : ∀ (t f : Nat), t < n → t < f → (risF F t = none → lp (mX9_nextOrder_b4 207 (nI n)) f (nI t - 1) s = some (0, s)) ∧ ∀ i, risF F t = some i → ∃ s', lp (mX9_nextOrder_b4 207 (nI n)) f (nI t - 1) s = some (1, s') ∧ RW s' 247 (rvF n (sw F i (grF F i (n - 1))) (i + 1) (n - 1)) n ∧ On s s' 247
  | 0, f, ht, hf => by
    obtain ⟨f, rfl⟩ : ∃ g, f = g + 1 := ⟨f - 1, by omega⟩
    refine ⟨fun _ => ?_, fun i h => by cases h⟩
    show mX9_nextOrder_b4 207 (nI n) (lp (mX9_nextOrder_b4 207 (nI n)) f) (nI 0 - 1) s = _
    generalize lp (mX9_nextOrder_b4 207 (nI n)) f = rec
    unfold mX9_nextOrder_b4
    rw [jn_eq, if_pos (show nI 0 - 1 < 0 by decide)]
    dsimp only
    rw [if_neg (show ¬ 0 ≤ nI 0 - 1 by decide)]
    rfl
  | t + 1, f, ht, hf => by
    obtain ⟨f, rfl⟩ : ∃ g, f = g + 1 := ⟨f - 1, by omega⟩
    have hN := hM.1
    have ih := mris_ok hM hn hR hB t f (by omega) (by omega)
    have hb1 := hB t (by omega)
    have hb2 := hB (t + 1) ht
    have er : risF F (t + 1) = if F (t + 1) < F t then risF F t else some t := rfl
    have e1 : nI n - 1 = nI (n - 1) := pk_sub (b := 1) (by omega)
    rw [er, nI_pred]
    have run : lp (mX9_nextOrder_b4 207 (nI n)) (f + 1) (nI t) s = if F (t + 1) < F t then lp (mX9_nextOrder_b4 207 (nI n)) f (nI t - 1) s else lp (mX9_nextOrder_b41 207 (nI t) (nI n)) FU (nI (n - 1)) s := by
      show mX9_nextOrder_b4 207 (nI n) (lp (mX9_nextOrder_b4 207 (nI n)) f) (nI t) s = _
      generalize lp (mX9_nextOrder_b4 207 (nI n)) f = rec
      unfold mX9_nextOrder_b4
      rw [jn_eq, if_neg (nI_pos (by omega)), mR hM 44 247 rfl (by decide) (by decide), alI_n (show t < ln 247 from show t < 6 by omega) (by decide) (by omega), hR t (by omega), mR hM 44 247 rfl (by decide) (by decide), nI_1, alI_n (show t + 1 < ln 247 from show t + 1 < 6 by omega) (by decide) (by omega), hR _ ht]
      by_cases hc : F (t + 1) < F t
      · rw [if_neg (nI_ge hc (by omega)), if_pos hc, nIm']
      · rw [if_pos (nI_le (by omega) (by omega)), if_neg hc]
        dsimp only
        rw [if_pos (nI_pos' (by omega)), e1]
    rw [run]
    by_cases hc : F (t + 1) < F t
    · rw [if_pos hc, if_pos hc]
      exact ih
    · rw [if_neg hc, if_neg hc]
      refine ⟨(fun z => by cases z), fun i hi => ?_⟩
      have e := Option.some.inj hi
      subst e
      exact mgr_ok hM hn hR hB ht hc (n - 1) FU (by omega) (by omega) (show n - 1 < 4000 by omega)
theorem nextOrder_ok (hM : M0 s) (h0 : 0 < n) (hn : n < 7) (hR : RW s 247 F n) (hB : ∀ k, k < n → F k < 1000) : (nxF F n = none → mX9_nextOrder 207 (nI n) s = some (0, s)) ∧ ∀ b, nxF F n = some b → ∃ s', mX9_nextOrder 207 (nI n) s = some (1, s') ∧ RW s' 247 b n ∧ On s s' 247 := by
  have h := mris_ok hM hn hR hB (n - 1) FU (by omega) (show n - 1 < 4000 by omega)
  have e : mX9_nextOrder 207 (nI n) s = lp (mX9_nextOrder_b4 207 (nI n)) FU (nI (n - 1) - 1) s := by
    unfold mX9_nextOrder
    rw [nI_m2 h0]
  rw [e]
  unfold nxF
  cases hx : risF F (n - 1) with
  | none => exact ⟨fun _ => h.1 hx, fun b hb => by cases hb⟩
  | some i =>
    refine ⟨(fun z => by cases z), fun b hb => ?_⟩
    have hb := Option.some.inj hb
    subst hb
    exact h.2 i hx
/-- the reference's pauses between the sorted groups f -/
def PWm (s : Sg) (T : Nat → Nat → Nat) (f : Nat → Nat) (n : Nat) : Prop := ∀ x y, x < n → y < n → x ≠ y → sI s 246 (6 * x + y) = if T (f x) (f y) ≤ 60 then nI (T (f x) (f y)) else -7
theorem i6' (x y : Nat) : 6 * nI x + nI y = nI (6 * x + y) := by
  rw [show (6 : Int32) = nI 6 from rfl, pk_mul, nI_add]
theorem sumOf_ok {T : Nat → Nat → Nat} {W : Nat → Nat → Nat} {f : Nat → Nat} (hM : MV s) (h0 : 0 < n) (hn : n < 7) (hR : RW s 247 F n) (hF : ∀ k, k < n → F k < n ∧ ∀ j, j < k → F j ≠ F k) (hf : ∀ k, k < n → f k < 20) (hinj : inc f n) (hS : RW s 245 f n) (hP : PWm s T f n) (hT : ∀ x y, 1 ≤ T x y ∧ T x y ≤ 61) (hW : ∀ x y, W x y = if x ≠ y ∧ ¬ rnk s y < rnk s x ∧ T x y ≤ 60 then T x y else 0) : mX9_sumOf 207 (nI n) s = some (match smF W (fun k => f (F k)) (n - 1) with
    | some v => nI v
    | none => -1, s) := by
  have hM0 := hM.1
  have hN := hM0.1
  have hWb : ∀ x y, W x y ≤ 60 := fun x y => by
    rw [hW]
    by_cases hc : x ≠ y ∧ ¬ rnk s y < rnk s x ∧ T x y ≤ 60
    · rw [if_pos hc]; exact hc.2.2
    · rw [if_neg hc]; omega
  refine lp_inv (F := mX9_sumOf_b4 (nI n) 207) (n := n) (I := fun k q s' => s' = s ∧ ((k + 1 ≤ n ∧ ∃ v, smF W (fun k => f (F k)) k = some v ∧ q = (nI v, nI (k + 1))) ∨ (smF W (fun k => f (F k)) (n - 1) = none ∧ q.1 = -1))) (Q := fun x => x = some (match smF W (fun k => f (F k)) (n - 1) with
    | some v => nI v
    | none => -1, s)) (fun q s' r h => ?_) (fun k q s' r hk h hr => ?_) FU 0 (Nat.zero_le _) (show n - 0 < 4000 by omega) _ _ ⟨rfl, Or.inl ⟨by omega, 0, rfl, rfl⟩⟩
  · obtain ⟨rfl, h⟩ := h
    rcases h with ⟨h, -⟩ | ⟨h, h2⟩
    · omega
    · obtain ⟨q1, q2⟩ := q
      dsimp only at h2
      subst h2
      rw [h]
      unfold mX9_sumOf_b4
      dsimp only
      rw [if_pos (show (-1 : Int32) < 0 by decide)]
      by_cases hc : nI n ≤ q2
      · rw [if_pos hc]
      · rw [if_neg hc]
  · obtain ⟨rfl, h⟩ := h
    rcases h with ⟨hk1, v, hv, rfl⟩ | ⟨h, h2⟩
    rotate_left
    · obtain ⟨q1, q2⟩ := q
      dsimp only at h2
      subst h2
      rw [h]
      unfold mX9_sumOf_b4
      dsimp only
      rw [if_pos (show (-1 : Int32) < 0 by decide)]
      by_cases hc : nI n ≤ q2
      · rw [if_pos hc]
      · rw [if_neg hc]
    have hvb := (smF_b hWb k v hv).1
    by_cases hend : k + 1 = n
    · unfold mX9_sumOf_b4
      dsimp only
      rw [if_pos (nI_le (by omega) (by omega)), show n - 1 = k by omega, hv]
    · have hF1 := hF k (by omega)
      have hF2 := hF (k + 1) (by omega)
      have hne : F k ≠ F (k + 1) := hF2.2 k (by omega)
      have hf1 := hf _ hF1.1
      have hf2 := hf _ hF2.1
      have hfne : f (F k) ≠ f (F (k + 1)) := fun z => by
        rcases Nat.lt_or_ge (F k) (F (k + 1)) with h | h
        · have := hinj _ _ h hF2.1; omega
        · have := hinj (F (k + 1)) (F k) (by omega) hF1.1; omega
      have hTb := hT (f (F k)) (f (F (k + 1)))
      have es : smF W (fun k => f (F k)) (k + 1) = if W (f (F k)) (f (F (k + 1))) = 0 then none else some (v + W (f (F k)) (f (F (k + 1)))) := by
        rw [smF, hv]
      have hnone : W (f (F k)) (f (F (k + 1))) = 0 → smF W (fun k => f (F k)) (n - 1) = none := fun hz => by
        rw [if_pos hz] at es
        have := smF_none es (n - 1 - (k + 1))
        rw [show k + 1 + (n - 1 - (k + 1)) = n - 1 by omega] at this
        exact this
      have hlt1 : 6 * F k + F (k + 1) < 36 := by omega
      unfold mX9_sumOf_b4
      dsimp only
      rw [if_neg (nI_ge (by omega) (by omega)), if_neg (nI_pos (by omega)), mR hM0 43 246 rfl (by decide) (by decide), mR hM0 44 247 rfl (by decide) (by decide), nI_pred, alI_n (show k < ln 247 from show k < 6 by omega) (by decide) (by omega), hR k (by omega), mR hM0 44 247 rfl (by decide) (by decide), alI_n (show k + 1 < ln 247 from show k + 1 < 6 by omega) (by decide) (by omega), hR (k + 1) (by omega), i6', alI_n (show _ < ln 246 from hlt1) (by decide) (by omega), hP _ _ hF1.1 hF2.1 hne, jn_eq, jn_eq]
      by_cases hb : T (f (F k)) (f (F (k + 1))) ≤ 60
      · rw [if_pos hb, if_neg (nI_nle (by omega) (by omega)), mR hM0 42 245 rfl (by decide) (by decide), mR hM0 44 247 rfl (by decide) (by decide), alI_n (show k < ln 247 from show k < 6 by omega) (by decide) (by omega), hR k (by omega), alI_n (show F k < ln 245 from show F k < 6 by omega) (by decide) (by omega), hS _ hF1.1, c9 hN, mRank hM hf1, cl_some, mR hM0 42 245 rfl (by decide) (by decide), mR hM0 44 247 rfl (by decide) (by decide), alI_n (show k + 1 < ln 247 from show k + 1 < 6 by omega) (by decide) (by omega), hR (k + 1) (by omega), alI_n (show F (k + 1) < ln 245 from show F (k + 1) < 6 by omega) (by decide) (by omega), hS _ hF2.1, c9 hN, mRank hM hf2, cl_some]
        by_cases hc : rnk s' (f (F (k + 1))) < rnk s' (f (F k))
        · have hz : W (f (F k)) (f (F (k + 1))) = 0 := by
            rw [hW, if_neg (fun z => z.2.1 hc)]
          rw [if_pos hc]
          dsimp only
          rw [if_pos rfl]
          exact hr _ _ ⟨rfl, Or.inr ⟨hnone hz, rfl⟩⟩
        · have hz : W (f (F k)) (f (F (k + 1))) = T (f (F k)) (f (F (k + 1))) := by
            rw [hW, if_pos ⟨hfne, hc, hb⟩]
          rw [hz, if_neg (by omega)] at es
          rw [if_neg hc]
          dsimp only
          rw [if_neg (by decide), nI_add, nI_1]
          exact hr _ _ ⟨rfl, Or.inl ⟨by omega, _, es, rfl⟩⟩
      · have hz : W (f (F k)) (f (F (k + 1))) = 0 := by
          rw [hW, if_neg (fun z => hb z.2.2)]
        rw [if_neg hb, if_pos (show (-7 : Int32) ≤ 0 by decide)]
        dsimp only
        rw [if_pos rfl]
        exact hr _ _ ⟨rfl, Or.inr ⟨hnone hz, rfl⟩⟩
/-- sorting -/
theorem mins_ok {r3 : Int32 → Sg → Option (Unit × Sg)} {v i : Nat} (hi : i < 6) (hv : v < 1000) : ∀ (p : Nat) (F : Nat → Nat) (s : Sg) (f : Nat), M0 s → p ≤ i → (∀ k, k < i + 1 → F k < 1000) → (∀ k, k < i + 1 → k ≠ p → sI s 245 k = nI (F k)) → p < f → ∃ s', lp (mX9_sortGroups_b27 207 (nI v) r3 (nI i)) f (nI p) s = r3 (nI i + 1) s' ∧ On s s' 245 ∧ RW s' 245 (insF v p F) (i + 1)
  | p, F, s, f, hM, hp, hF, hR, hf => by
    obtain ⟨f, rfl⟩ : ∃ g, f = g + 1 := ⟨f - 1, by omega⟩
    have hN := hM.1
    have put : ∀ k, k < 6 → (gdR s 9 42 (some 207) fun v14 => asI s v14 (nI k) (nI v) fun s15 => r3 (nI i + 1) s15) = r3 (nI i + 1) (uI s 245 k (nI v)) := fun k hk => by
      rw [mR hM 42 245 rfl (by decide) (by decide), asI_n (show k < ln 245 from hk) (by decide) (by omega)]
    have putR : RW (uI s 245 p (nI v)) 245 (upN F p v) (i + 1) := fun k hk => by
      unfold upN
      rw [sI_if]
      by_cases hkp : k = p
      · rw [if_pos ⟨rfl, hkp⟩, if_pos hkp]
      · rw [if_neg (fun z => hkp z.2), if_neg hkp]
        exact hR k hk hkp
    cases p with
    | zero =>
      refine ⟨uI s 245 0 (nI v), ?_, On.u, putR⟩
      show mX9_sortGroups_b27 207 (nI v) r3 (nI i) (lp (mX9_sortGroups_b27 207 (nI v) r3 (nI i)) f) (nI 0) s = _
      unfold mX9_sortGroups_b27
      rw [jn_eq, if_pos (show nI 0 ≤ 0 by decide)]
      exact put 0 (by omega)
    | succ p =>
      have hFp := hF p (by omega)
      have ih : ¬ F p ≤ v → ∃ s', lp (mX9_sortGroups_b27 207 (nI v) r3 (nI i)) f (nI p) (uI s 245 (p + 1) (nI (F p))) = r3 (nI i + 1) s' ∧ On (uI s 245 (p + 1) (nI (F p))) s' 245 ∧ RW s' 245 (insF v p (upN F (p + 1) (F p))) (i + 1) := fun _ => mins_ok hi hv p (upN F (p + 1) (F p)) (uI s 245 (p + 1) (nI (F p))) f hM.uI (by omega) (fun k hk => by
        unfold upN
        by_cases hkp : k = p + 1
        · rw [if_pos hkp]; exact hFp
        · rw [if_neg hkp]; exact hF k hk) (fun k hk hkp => by
        unfold upN
        rw [sI_if]
        by_cases hkq : k = p + 1
        · rw [if_pos ⟨rfl, hkq⟩, if_pos hkq]
        · rw [if_neg (fun z => hkq z.2), if_neg hkq]
          exact hR k hk hkq) (by omega)
      have ei : insF v (p + 1) F = if F p ≤ v then upN F (p + 1) v else insF v p (upN F (p + 1) (F p)) := rfl
      show ∃ s', mX9_sortGroups_b27 207 (nI v) r3 (nI i) (lp (mX9_sortGroups_b27 207 (nI v) r3 (nI i)) f) (nI (p + 1)) s = r3 (nI i + 1) s' ∧ _
      generalize lp (mX9_sortGroups_b27 207 (nI v) r3 (nI i)) f = rec at ih ⊢
      unfold mX9_sortGroups_b27
      rw [jn_eq, if_neg (nI_nle (by omega) (by omega)), mR hM 42 245 rfl (by decide) (by decide), nI_pred, alI_n (show p < ln 245 from show p < 6 by omega) (by decide) (by omega), hR p (by omega) (by omega), ei]
      by_cases hc : F p ≤ v
      · rw [if_pos (nI_le hc (by omega)), if_pos hc]
        exact ⟨_, put (p + 1) (by omega), On.u, putR⟩
      · rw [if_neg (nI_ge (by omega) (by omega)), if_neg hc, mR hM 42 245 rfl (by decide) (by decide), mR hM 42 245 rfl (by decide) (by decide), alI_n (show p < ln 245 from show p < 6 by omega) (by decide) (by omega), hR p (by omega) (by omega), asI_n (show p + 1 < ln 245 from show p + 1 < 6 by omega) (by decide) (by omega), nIm]
        obtain ⟨s', a1, a2, a3⟩ := ih hc
        exact ⟨s', a1, On.u.tr a2, a3⟩
theorem sortGroups_ok {l : Nat} {g : Nat → Nat} (hM : M0 s) (hl : l < 12) (hn : n < 7) (z1 : sI s 228 l = nI n) (hg : ∀ i, i < n → g i < 20 ∧ sI s 229 (6 * l + i) = nI (g i)) (hd : ∀ i, i < n → ∀ j, j < i → g j ≠ g i) : ∃ s', mX9_sortGroups 207 (nI l) s = some ((), s') ∧ On s s' 245 ∧ RW s' 245 (srtF g n) n := by
  refine lp_inv (F := mX9_sortGroups_b2 207 (nI l)) (n := n) (I := fun i q s' => q = nI i ∧ On s s' 245 ∧ RW s' 245 (srtF g i) i) (Q := fun x => ∃ s', x = some ((), s') ∧ On s s' 245 ∧ RW s' 245 (srtF g n) n) (fun q s' r h => ?_) (fun i q s' r hi h hr => ?_) FU 0 (Nat.zero_le _) (show n - 0 < 4000 by omega) _ _ ⟨rfl, On.rf, fun k hk => absurd hk (Nat.not_lt_zero k)⟩
  · obtain ⟨rfl, c1, c2⟩ := h
    have hM' := hM.on c1
    have hN' := hM'.1
    refine ⟨s', ?_, c1, c2⟩
    unfold mX9_sortGroups_b2
    rw [mR hM' 22 228 rfl (by decide) (by decide), alI_n (show l < ln 228 from hl) (by decide) (by omega), c1.2.2.2 _ _ (by decide), z1, if_pos (Int32.le_refl _)]
  · obtain ⟨rfl, c1, c2⟩ := h
    have hM' := hM.on c1
    have hN' := hM'.1
    obtain ⟨g1, g2⟩ := hg i hi
    have hb := srt_b (fun i hi => (hg i hi).1) hd (i := i) (by omega)
    obtain ⟨s2, a1, a2, a3⟩ := mins_ok (r3 := r) (v := g i) (i := i) (by omega) (by omega) i (fun k => if k < i then srtF g i k else 0) s' FU hM' (Nat.le_refl _) (fun k hk => by
      by_cases hki : k < i
      · rw [if_pos hki]; have := hb k hki; omega
      · rw [if_neg hki]; omega) (fun k hk hki => by
      rw [if_pos (by omega)]
      exact c2 k (by omega)) (show i < 4000 by omega)
    unfold mX9_sortGroups_b2
    rw [mR hM' 22 228 rfl (by decide) (by decide), alI_n (show l < ln 228 from hl) (by decide) (by omega), c1.2.2.2 _ _ (by decide), z1, if_neg (nI_ge hi (by omega)), mR hM' 23 229 rfl (by decide) (by decide), i6, alI_n (show 6 * l + i < ln 229 from show _ < 72 by omega) (by decide) (by omega), c1.2.2.2 _ _ (by decide), g2, a1, nI_1]
    exact hr _ _ ⟨rfl, c1.tr a2, a3.cg (fun k hk => insF_cg i _ _ (fun q hq => if_pos hq) k hk)⟩
end NXM
