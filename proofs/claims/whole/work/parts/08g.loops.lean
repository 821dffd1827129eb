/-! LOOPS -/
def BoE {X : Type} (x : Option X) (E : Int32 → Option X) (P : Prop) : Prop := (P → x = E 1) ∧ (¬ P → x = E 0)
theorem BoE.iff {X : Type} {x : Option X} {E : Int32 → Option X} {P Q : Prop} (h : BoE x E P) (hp : P ↔ Q) : BoE x E Q := ⟨fun q => h.1 (hp.2 q), fun q => h.2 (fun z => q (hp.1 z))⟩
theorem bo_any {X : Type} {F : (Int32 → Sg → Option X) → Int32 → Sg → Option X} {s : Sg} {n : Nat} {c : Nat → Prop} {E : Int32 → Option X} (hend : ∀ r, F r (nI n) s = E 0) (h1 : ∀ k, k < n → c k → ∀ r, F r (nI k) s = E 1) (h0 : ∀ k, k < n → ¬ c k → ∀ r, F r (nI k) s = r (nI k + 1) s) : ∀ (f i : Nat), i ≤ n → n - i < f → BoE (lp F f (nI i) s) E (∃ k, i ≤ k ∧ k < n ∧ c k)
  | 0, i, hi, hf => absurd hf (Nat.not_lt_zero _)
  | f + 1, i, hi, hf => by
    show BoE (F (lp F f) (nI i) s) E _
    by_cases hin : i = n
    · subst hin
      exact ⟨fun ⟨k, a, b, _⟩ => absurd b (by omega), fun _ => hend _⟩
    have hin2 : i < n := by omega
    by_cases hc : c i
    · exact ⟨fun _ => h1 i hin2 hc _, fun z => absurd ⟨i, Nat.le_refl _, hin2, hc⟩ z⟩
    · rw [h0 i hin2 hc, nI_1]
      refine (bo_any hend h1 h0 f (i + 1) (by omega) (by omega)).iff ⟨fun ⟨k, a, b, d⟩ => ⟨k, by omega, b, d⟩, fun ⟨k, a, b, d⟩ => ⟨k, ?_, b, d⟩⟩
      by_cases hki : k = i
      · subst hki; exact absurd d hc
      · omega
theorem bo_acc {X : Type} {F : (Int32 × Int32 → Sg → Option X) → Int32 × Int32 → Sg → Option X} {s : Sg} {n : Nat} {c : Nat → Prop} {E : Int32 → Option X} (hend : ∀ v r, F r (v, nI n) s = E v) (h2 : ∀ k, k < n → ∀ r, F r (1, nI k) s = r (1, nI k + 1) s) (h1 : ∀ k, k < n → c k → ∀ r, F r (0, nI k) s = r (1, nI k + 1) s) (h0 : ∀ k, k < n → ¬ c k → ∀ r, F r (0, nI k) s = r (0, nI k + 1) s) : ∀ (f i : Nat), i ≤ n → n - i < f → lp F f (1, nI i) s = E 1 ∧ BoE (lp F f (0, nI i) s) E (∃ k, i ≤ k ∧ k < n ∧ c k)
  | 0, i, hi, hf => absurd hf (Nat.not_lt_zero _)
  | f + 1, i, hi, hf => by
    show F (lp F f) (1, nI i) s = E 1 ∧ BoE (F (lp F f) (0, nI i) s) E _
    by_cases hin : i = n
    · subst hin
      exact ⟨hend _ _, fun ⟨k, a, b, _⟩ => absurd b (by omega), fun _ => hend _ _⟩
    have hin2 : i < n := by omega
    have ih := bo_acc hend h2 h1 h0 f (i + 1) (by omega) (by omega)
    refine ⟨by rw [h2 i hin2, nI_1]; exact ih.1, ?_⟩
    by_cases hc : c i
    · exact ⟨fun _ => by rw [h1 i hin2 hc, nI_1]; exact ih.1, fun z => absurd ⟨i, Nat.le_refl _, hin2, hc⟩ z⟩
    · rw [h0 i hin2 hc, nI_1]
      refine ih.2.iff ⟨fun ⟨k, a, b, d⟩ => ⟨k, by omega, b, d⟩, fun ⟨k, a, b, d⟩ => ⟨k, ?_, b, d⟩⟩
      by_cases hki : k = i
      · subst hki; exact absurd d hc
      · omega
theorem lp_run {A X : Type} {F : (A → Sg → Option X) → A → Sg → Option X} {n : Nat} {q : Nat → A} {S : Nat → Sg} {x : Option X} (hend : ∀ r, F r (q n) (S n) = x) (hstep : ∀ i, i < n → ∀ r, F r (q i) (S i) = r (q (i + 1)) (S (i + 1))) : ∀ (f i : Nat), i ≤ n → n - i < f → lp F f (q i) (S i) = x
  | 0, i, hi, hf => absurd hf (Nat.not_lt_zero _)
  | f + 1, i, hi, hf => by
    show F (lp F f) (q i) (S i) = x
    by_cases hin : i = n
    · subst hin
      exact hend _
    · rw [hstep i (by omega)]
      exact lp_run hend hstep f (i + 1) (by omega) (by omega)
theorem lp_inv {A X : Type} {F : (A → Sg → Option X) → A → Sg → Option X} {n : Nat} {I : Nat → A → Sg → Prop} {Q : Option X → Prop} (hend : ∀ q s r, I n q s → Q (F r q s)) (hstep : ∀ i q s (r : A → Sg → Option X), i < n → I i q s → (∀ q' s', I (i + 1) q' s' → Q (r q' s')) → Q (F r q s)) : ∀ (f i : Nat), i ≤ n → n - i < f → ∀ q s, I i q s → Q (lp F f q s)
  | 0, i, hi, hf, _, _, _ => absurd hf (Nat.not_lt_zero _)
  | f + 1, i, hi, hf, q, s, h => by
    show Q (F (lp F f) q s)
    by_cases hin : i = n
    · subst hin
      exact hend _ _ _ h
    · exact hstep i q s _ (by omega) h fun q' s' h' => lp_inv hend hstep f (i + 1) (by omega) (by omega) q' s' h'
theorem swc_at {β : Type} {xs : List (Option β)} {d : Option β} {j : Nat} (hj : j < 2 ^ 31) : swc (nI j) 0 xs d = xs.getD j d := by
  unfold swc
  rw [nI_toInt hj, if_neg (by omega)]
  simp
theorem swc_out {β : Type} {xs : List (Option β)} {d : Option β} {p : Int32} (h : noP xs.length p) : swc p 0 xs d = d := by
  unfold swc
  rcases noP_in h with h | h
  · rw [if_pos h]
  · rw [if_neg (by omega), List.getD_eq_getElem?_getD, List.getElem?_eq_none (by omega)]
    rfl
theorem i4 (g k : Nat) : 4 * nI g + nI k = nI (4 * g + k) := by
  have h : (4 : Int32) = nI 4 := by decide
  rw [h, pk_mul, nI_add]
theorem i6 (g k : Nat) : 6 * nI g + nI k = nI (6 * g + k) := by
  have h : (6 : Int32) = nI 6 := by decide
  rw [h, pk_mul, nI_add]
/-! a group and a load as they stand -/
def GV (s : Sg) (g m : Nat) : Prop := g < 20 ∧ m < 5 ∧ sI s 220 g = nI m ∧ sI s (56 + 2 * g) 2 = nI m ∧ sR s (56 + 2 * g) 1 = some (57 + 2 * g) ∧ M0 s ∧ ∀ k, k < m → ∃ j, j < 32 ∧ sI s 221 (4 * g + k) = nI j ∧ sR s (57 + 2 * g) k = some (24 + j)
def LV (s : Sg) (l m : Nat) : Prop := l < 12 ∧ m < 7 ∧ sI s 228 l = nI m ∧ sI s (99 + 7 * l) 6 = nI m ∧ sR s (99 + 7 * l) 0 = some (100 + 7 * l) ∧ sR s (99 + 7 * l) 1 = some (101 + 7 * l) ∧ M0 s ∧ ∀ i, i < m → ∃ g, g < 20 ∧ sI s 229 (6 * l + i) = nI g ∧ sR s (100 + 7 * l) i = some (56 + 2 * g) ∧ sI s (101 + 7 * l) i = sI s 230 (6 * l + i) ∧ btw (sI s 230 (6 * l + i)) 1 60
theorem R4.gv {s : Sg} (h : R4 s) (r0 : R0 s) {g : Nat} (hg : g < 20) : ∃ m, GV s g m := by
  obtain ⟨-, n, -, -, h⟩ := h
  obtain ⟨-, -, -, -, c5, -, -, -, -, -, -, m, hm, hm2, hm3⟩ := h g hg
  have hM := r0.m
  obtain ⟨h0, q0, q1, q2, q3, q4, q5, q6, q7, q8, q9, q10, q11, q12, q13, b1, b2, b3, b4, b5, -⟩ := r0
  exact ⟨m, hg, hm, hm2, c5.trans hm2, (b3 g hg).2.2, hM, hm3⟩
theorem RL1.lv {s : Sg} {n l : Nat} (h : RL1 s n l) (r0 : R0 s) (hl : l < 12) : ∃ m, LV s l m := by
  obtain ⟨a1, a2, a3, a4, -, m, hm, hm2, hm3, hi⟩ := h
  have hM := r0.m
  obtain ⟨h0, q0, q1, q2, q3, q4, q5, q6, q7, q8, q9, q10, q11, q12, q13, b1, b2, b3, b4, b5, -⟩ := r0
  refine ⟨m, hl, hm, hm2, a1.trans hm2, (b5 l hl).2.1, (b5 l hl).2.2.1, hM, fun i hi1 => ?_⟩
  obtain ⟨⟨d1, d2, g, d3, d4, d5, d6⟩, d7⟩ := hi i hi1
  exact ⟨g, d3, d5, d6, d1, d2⟩
theorem GV.holds {s : Sg} {g m j : Nat} (h : GV s g m) (hj : j < 32) : BoE (mX2_holds (56 + 2 * g) (some (24 + j)) s) (fun v => some (v, s)) (∃ k, k < m ∧ sI s 221 (4 * g + k) = nI j) := by
  obtain ⟨hg, hm, z1, z2, z3, ⟨hN, -⟩, z4⟩ := h
  obtain ⟨k1, k2, k3⟩ := kdGr g hg
  refine (bo_any (F := mX2_holds_b2 (56 + 2 * g) (some (24 + j))) (s := s) (n := m) (c := fun k => sI s 221 (4 * g + k) = nI j) (E := fun v => some (v, s)) (fun r => ?_) (fun k hk hc r => ?_) (fun k hk hc r => ?_) FU 0 (Nat.zero_le _) (show m - 0 < 4000 by omega)).iff ⟨fun ⟨k, _, a, b⟩ => ⟨k, a, b⟩, fun ⟨k, a, b⟩ => ⟨k, Nat.zero_le _, a, b⟩⟩
  · unfold mX2_holds_b2
    rw [gdI_at k1 (by omega), z2, if_pos (Int32.le_refl _)]
    rfl
  · obtain ⟨j', hj', e1, e2⟩ := z4 k hk
    unfold mX2_holds_b2
    rw [gdI_at k1 (by omega), z2, if_neg (nI_ge hk (by omega)), gdR_at k1 (by omega), z3, alR_n (by omega) k2 (by omega), e2, if_neg]
    · rfl
    · rw [e1, nI_eq (by omega) (by omega)] at hc
      rw [hc]
      exact fun z => z rfl
  · obtain ⟨j', hj', e1, e2⟩ := z4 k hk
    unfold mX2_holds_b2
    rw [gdI_at k1 (by omega), z2, if_neg (nI_ge hk (by omega)), gdR_at k1 (by omega), z3, alR_n (by omega) k2 (by omega), e2, if_pos]
    intro z
    have z5 : 24 + j' = 24 + j := Option.some.inj z
    exact hc (by rw [e1, show j' = j by omega])
theorem mHas {s : Sg} {g m j : Nat} (hM : M0 s) (hg : g < 20) (hm : m < 5) (z1 : sI s 220 g = nI m) : BoE (mX9_hasJumper 207 (nI g) (nI j) s) (fun v => some (v, s)) (∃ k, k < m ∧ sI s 221 (4 * g + k) = nI j) := by
  have hN := hM.1
  refine (bo_acc (F := mX9_hasJumper_b5 207 (nI g) (nI j)) (s := s) (n := m) (c := fun k => sI s 221 (4 * g + k) = nI j) (E := fun v => ckB v (some (v, s))) (fun v r => ?_) (fun k hk r => ?_) (fun k hk hc r => ?_) (fun k hk hc r => ?_) FU 0 (Nat.zero_le _) (show m - 0 < 4000 by omega)).2.iff ⟨fun ⟨k, _, a, b⟩ => ⟨k, a, b⟩, fun ⟨k, a, b⟩ => ⟨k, Nat.zero_le _, a, b⟩⟩
  · unfold mX9_hasJumper_b5
    rw [mR hM 13 220 rfl (by decide) (by decide), alI_n (show g < ln 220 from hg) (by decide) (by omega), z1, if_pos (Int32.le_refl _)]
  · unfold mX9_hasJumper_b5
    rw [mR hM 13 220 rfl (by decide) (by decide), alI_n (show g < ln 220 from hg) (by decide) (by omega), z1]
    dsimp only
    rw [if_neg (nI_ge hk (by omega)), if_pos (by decide)]
  · unfold mX9_hasJumper_b5
    rw [mR hM 13 220 rfl (by decide) (by decide), alI_n (show g < ln 220 from hg) (by decide) (by omega), z1]
    dsimp only
    rw [if_neg (nI_ge hk (by omega)), if_neg (by decide), mR hM 14 221 rfl (by decide) (by decide), i4, alI_n (show 4 * g + k < ln 221 from show _ < 80 by omega) (by decide) (by omega), hc, if_neg (fun z => z rfl)]
  · unfold mX9_hasJumper_b5
    rw [mR hM 13 220 rfl (by decide) (by decide), alI_n (show g < ln 220 from hg) (by decide) (by omega), z1]
    dsimp only
    rw [if_neg (nI_ge hk (by omega)), if_neg (by decide), mR hM 14 221 rfl (by decide) (by decide), i4, alI_n (show 4 * g + k < ln 221 from show _ < 80 by omega) (by decide) (by omega), if_pos hc]
theorem LV.holds {s : Sg} {l m g : Nat} (h : LV s l m) (hg : g < 20) : BoE (mX5_holds (99 + 7 * l) (some (56 + 2 * g)) s) (fun v => some (v, s)) (∃ i, i < m ∧ sI s 229 (6 * l + i) = nI g) := by
  obtain ⟨hl, hm, z1, z2, z3, z9, ⟨hN, -⟩, z4⟩ := h
  obtain ⟨k1, k2, k3, k4, k5, k6, k7, k8, k9, k10, k11⟩ := kdLo l hl
  refine (bo_any (F := mX5_holds_b2 (99 + 7 * l) (some (56 + 2 * g))) (s := s) (n := m) (c := fun i => sI s 229 (6 * l + i) = nI g) (E := fun v => some (v, s)) (fun r => ?_) (fun k hk hc r => ?_) (fun k hk hc r => ?_) FU 0 (Nat.zero_le _) (show m - 0 < 4000 by omega)).iff ⟨fun ⟨k, _, a, b⟩ => ⟨k, a, b⟩, fun ⟨k, a, b⟩ => ⟨k, Nat.zero_le _, a, b⟩⟩
  · unfold mX5_holds_b2
    rw [gdI_at k1 (by omega), z2, if_pos (Int32.le_refl _)]
    rfl
  · obtain ⟨j', hj', e1, e2, -⟩ := z4 k hk
    unfold mX5_holds_b2
    rw [gdI_at k1 (by omega), z2, if_neg (nI_ge hk (by omega)), gdR_at k1 (by omega), z3, alR_n (by omega) k2 (by omega), e2, if_neg]
    · rfl
    · rw [e1, nI_eq (by omega) (by omega)] at hc
      rw [hc]
      exact fun z => z rfl
  · obtain ⟨j', hj', e1, e2, -⟩ := z4 k hk
    unfold mX5_holds_b2
    rw [gdI_at k1 (by omega), z2, if_neg (nI_ge hk (by omega)), gdR_at k1 (by omega), z3, alR_n (by omega) k2 (by omega), e2, if_pos]
    intro z
    have z5 : 56 + 2 * j' = 56 + 2 * g := Option.some.inj z
    exact hc (by rw [e1, show j' = g by omega])
/-- the loads of which the first n are there; a group stands in one of them that has left, or hasn't -/
def inS (s : Sg) (n : Nat) (v : Int32) (g : Nat) : Prop := ∃ l, l < n ∧ sI s 232 l = v ∧ ∃ i, i < (sI s 228 l).toNatClampNeg ∧ sI s 229 (6 * l + i) = nI g
theorem cInSome {s : Sg} (hr : Rel s) {n g : Nat} (hn : n < 13) (e : sI s 207 20 = nI n) (hg : g < 20) (v : Int32) : BoE (mX8_isInSomeLoad 0 (some (56 + 2 * g)) v s) (fun b => some (b, s)) (inS s n v g) := by
  obtain ⟨r0, r1, r2, r3, r4, r5, r6, ⟨en, n', hn', en', hL⟩, r8⟩ := hr
  have hnn : n' = n := (nI_eq (by omega) (by omega)).mp (en'.symm.trans e)
  subst hnn
  have q := r0
  obtain ⟨h0, q0, q1, q2, q3, q4, q5, q6, q7, q8, q9, q10, q11, q12, q13, b1, b2, b3, b4, b5, -⟩ := q
  refine (bo_any (F := mX8_isInSomeLoad_b2 0 v (some (56 + 2 * g))) (s := s) (n := n') (c := fun l => sI s 232 l = v ∧ ∃ i, i < (sI s 228 l).toNatClampNeg ∧ sI s 229 (6 * l + i) = nI g) (E := fun v => some (v, s)) (fun r => ?_) (fun l hl hc r => ?_) (fun l hl hc r => ?_) FU 0 (Nat.zero_le _) (show n' - 0 < 4000 by omega)).iff ⟨fun ⟨k, _, a, b⟩ => ⟨k, a, b⟩, fun ⟨k, a, b⟩ => ⟨k, Nat.zero_le _, a, b⟩⟩
  · unfold mX8_isInSomeLoad_b2
    rw [dI h0, en, e, if_pos (Int32.le_refl _)]
    rfl
  · obtain ⟨k1, -⟩ := kdLo l (by omega)
    obtain ⟨m, hv⟩ := (hL l (by omega)).lv r0 (by omega)
    have a3 := (hL l (by omega)).2.2.1
    have hb := hv.holds hg
    unfold mX8_isInSomeLoad_b2
    rw [dI h0, en, e, if_neg (nI_ge hl (by omega)), dR h0, q5, alR_n (show l < ln 8 from show l < 12 by omega) (by decide) (by omega), (b5 l (by omega)).1, gdI_at k1 (by omega), a3, hc.1, if_neg (fun z => z rfl), dR h0, q5, alR_n (show l < ln 8 from show l < 12 by omega) (by decide) (by omega), (b5 l (by omega)).1, cv_at k1 (by omega), hb.1, cl_some, if_neg (by decide)]
    · rfl
    · have h9 := hc.2
      rw [hv.2.2.1, nI_clamp (by have := hv.2.1; omega)] at h9
      exact h9
  · obtain ⟨k1, -⟩ := kdLo l (by omega)
    obtain ⟨m, hv⟩ := (hL l (by omega)).lv r0 (by omega)
    have a3 := (hL l (by omega)).2.2.1
    have hb := hv.holds hg
    unfold mX8_isInSomeLoad_b2
    rw [dI h0, en, e, if_neg (nI_ge hl (by omega)), dR h0, q5, alR_n (show l < ln 8 from show l < 12 by omega) (by decide) (by omega), (b5 l (by omega)).1, gdI_at k1 (by omega), a3]
    by_cases hz : sI s 232 l = v
    · rw [if_neg (fun z => z hz), dR h0, q5, alR_n (show l < ln 8 from show l < 12 by omega) (by decide) (by omega), (b5 l (by omega)).1, cv_at k1 (by omega), hb.2, cl_some, if_pos (by decide)]
      intro h9
      refine hc ⟨hz, ?_⟩
      rw [hv.2.2.1, nI_clamp (by have := hv.2.1; omega)]
      exact h9
    · rw [if_pos hz]
theorem mInSome {s : Sg} (hM : M0 s) {n' g : Nat} (hn : n' < 13) (e : sI s 207 20 = nI n') (hL : ∀ l, l < n' → ∃ m, m < 7 ∧ sI s 228 l = nI m) (v : Int32) : BoE (mX9_isInSome 207 (nI g) v s) (fun b => some (b, s)) (inS s n' v g) := by
  have hN := hM.1
  have inner : ∀ l, l < n' → ∀ (r3 : (Int32 × Int32) → Sg → Option (Int32 × Sg)) (w : Int32), lp (mX9_isInSome_b17 207 (w, nI l) r3 v (nI g)) FU (1, 0) s = r3 (1, nI l + 1) s ∧ BoE (lp (mX9_isInSome_b17 207 (w, nI l) r3 v (nI g)) FU (0, 0) s) (fun b => r3 (b, nI l + 1) s) (sI s 232 l = v ∧ ∃ i, i < (sI s 228 l).toNatClampNeg ∧ sI s 229 (6 * l + i) = nI g) := by
    intro l hl r3 w
    obtain ⟨m, hm, z1⟩ := hL l hl
    have hl12 : l < 12 := by omega
    have hb := bo_acc (F := mX9_isInSome_b17 207 (w, nI l) r3 v (nI g)) (s := s) (n := m) (c := fun i => sI s 232 l = v ∧ sI s 229 (6 * l + i) = nI g) (E := fun b => r3 (b, nI l + 1) s) (fun b r => ?_) (fun k hk r => ?_) (fun k hk hc r => ?_) (fun k hk hc r => ?_) FU 0 (Nat.zero_le _) (show m - 0 < 4000 by omega)
    · refine ⟨hb.1, hb.2.iff ?_⟩
      rw [z1, nI_clamp (by omega)]
      exact ⟨fun ⟨k, _, a, b, c⟩ => ⟨b, k, a, c⟩, fun ⟨b, k, a, c⟩ => ⟨k, Nat.zero_le _, a, b, c⟩⟩
    · unfold mX9_isInSome_b17
      rw [mR hM 22 228 rfl (by decide) (by decide)]
      dsimp only
      rw [alI_n (show l < ln 228 from hl12) (by decide) (by omega), z1, if_pos (Int32.le_refl _)]
    · unfold mX9_isInSome_b17
      rw [mR hM 22 228 rfl (by decide) (by decide)]
      dsimp only
      rw [alI_n (show l < ln 228 from hl12) (by decide) (by omega), z1, if_neg (nI_ge hk (by omega)), if_pos (by decide)]
    · unfold mX9_isInSome_b17
      rw [mR hM 22 228 rfl (by decide) (by decide)]
      dsimp only
      rw [alI_n (show l < ln 228 from hl12) (by decide) (by omega), z1, if_neg (nI_ge hk (by omega)), if_neg (by decide), mR hM 26 232 rfl (by decide) (by decide), alZ_n (show l < ln 232 from hl12) (by decide) (by omega), hc.1, if_neg (fun z => z rfl), mR hM 23 229 rfl (by decide) (by decide), i6, alI_n (show 6 * l + k < ln 229 from show _ < 72 by omega) (by decide) (by omega), hc.2, if_neg (fun z => z rfl)]
    · unfold mX9_isInSome_b17
      rw [mR hM 22 228 rfl (by decide) (by decide)]
      dsimp only
      rw [alI_n (show l < ln 228 from hl12) (by decide) (by omega), z1, if_neg (nI_ge hk (by omega)), if_neg (by decide), mR hM 26 232 rfl (by decide) (by decide), alZ_n (show l < ln 232 from hl12) (by decide) (by omega)]
      by_cases hz : sI s 232 l = v
      · rw [if_neg (fun z => z hz), mR hM 23 229 rfl (by decide) (by decide), i6, alI_n (show 6 * l + k < ln 229 from show _ < 72 by omega) (by decide) (by omega), if_pos (fun z => hc ⟨hz, z⟩)]
      · rw [if_pos hz]
  refine (bo_acc (F := mX9_isInSome_b5 207 v (nI g)) (s := s) (n := n') (c := fun l => sI s 232 l = v ∧ ∃ i, i < (sI s 228 l).toNatClampNeg ∧ sI s 229 (6 * l + i) = nI g) (E := fun b => ckB b (some (b, s))) (fun b r => ?_) (fun k hk r => ?_) (fun k hk hc r => ?_) (fun k hk hc r => ?_) FU 0 (Nat.zero_le _) (show n' - 0 < 4000 by omega)).2.iff ⟨fun ⟨k, _, a, b⟩ => ⟨k, a, b⟩, fun ⟨k, a, b⟩ => ⟨k, Nat.zero_le _, a, b⟩⟩
  · unfold mX9_isInSome_b5
    rw [mI hN, e, if_pos (Int32.le_refl _)]
  · unfold mX9_isInSome_b5
    rw [mI hN, e, if_neg (nI_ge hk (by omega))]
    exact (inner k hk r 1).1
  · unfold mX9_isInSome_b5
    rw [mI hN, e, if_neg (nI_ge hk (by omega))]
    exact (inner k hk r 0).2.1 hc
  · unfold mX9_isInSome_b5
    rw [mI hN, e, if_neg (nI_ge hk (by omega))]
    exact (inner k hk r 0).2.2 hc
theorem inS.congr {s s' : Sg} {n : Nat} {v : Int32} {g : Nat} (h1 : sI s' 232 = sI s 232) (h2 : sI s' 228 = sI s 228) (h3 : sI s' 229 = sI s 229) : inS s' n v g ↔ inS s n v g := by
  unfold inS
  rw [h1, h2, h3]
