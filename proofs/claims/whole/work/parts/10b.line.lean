/-! THE CLASS'S LINE -/
def On (s s' : Sg) (c : Nat) : Prop := sN s' = sN s ∧ sR s' = sR s ∧ sF s' = sF s ∧ ∀ a q, a ≠ c → sI s' a q = sI s a q
def RW (s : Sg) (c : Nat) (F : Nat → Nat) (n : Nat) : Prop := ∀ k, k < n → sI s c k = nI (F k)
theorem On.rf {s : Sg} {c : Nat} : On s s c := ⟨rfl, rfl, rfl, fun _ _ _ => rfl⟩
theorem On.tr {s s1 s2 : Sg} {c : Nat} (h : On s s1 c) (h2 : On s1 s2 c) : On s s2 c := ⟨h2.1.trans h.1, h2.2.1.trans h.2.1, h2.2.2.1.trans h.2.2.1, fun a q z => (h2.2.2.2 a q z).trans (h.2.2.2 a q z)⟩
theorem On.u {s : Sg} {c k : Nat} {v : Int32} : On s (uI s c k v) c := ⟨rfl, rfl, rfl, fun _ _ z => sI_ne z⟩
theorem On.scr {s s' : Sg} {c : Nat} (h : On s s' c) (hc : (12 ≤ c ∧ c ≤ 14) ∨ 237 ≤ c) : Scr s s' := ⟨h.1, h.2.1, h.2.2.1, fun a q z => h.2.2.2 a q (by
  intro e
  subst e
  revert z
  unfold scr
  omega)⟩
theorem RW.cg {s : Sg} {c n : Nat} {F G : Nat → Nat} (h : RW s c F n) (e : ∀ k, k < n → F k = G k) : RW s c G n := fun k hk => by rw [← e k hk]; exact h k hk
theorem RW.on {s s' : Sg} {c d n : Nat} {F : Nat → Nat} (h : RW s c F n) (ho : On s s' d) (hcd : c ≠ d) : RW s' c F n := fun k hk => by rw [ho.2.2.2 c k hcd]; exact h k hk
theorem swp {s : Sg} {c n i j : Nat} {F : Nat → Nat} (h : RW s c F n) : RW (uI (uI s c i (nI (F j))) c j (nI (F i))) c (sw F i j) n ∧ On s (uI (uI s c i (nI (F j))) c j (nI (F i))) c := by
  refine ⟨fun k hk => ?_, On.u.tr On.u⟩
  unfold sw
  rw [sI_if, sI_if]
  by_cases h1 : k = i
  · subst h1
    by_cases h2 : k = j
    · subst h2
      rw [if_pos ⟨rfl, rfl⟩, if_pos rfl]
    · rw [if_neg (fun z => h2 z.2), if_pos ⟨rfl, rfl⟩, if_pos rfl]
  · by_cases h2 : k = j
    · subst h2
      rw [if_pos ⟨rfl, rfl⟩, if_neg h1, if_pos rfl]
    · rw [if_neg (fun z => h2 z.2), if_neg (fun z => h1 z.2), if_neg h1, if_neg h2]
      exact h k hk
theorem nIm (k : Nat) : nI (k + 1) + (-1) = nI k := by
  rw [← Int32.sub_eq_add_neg, nI_pred]
theorem nIm' (k : Nat) : nI k + (-1) = nI k - 1 := (Int32.sub_eq_add_neg _ _).symm
theorem nI_m2 {n : Nat} (h : 0 < n) : nI n - 2 = nI (n - 1) - 1 := by
  obtain ⟨k, rfl⟩ : ∃ k, n = k + 1 := ⟨n - 1, by omega⟩
  rw [Nat.add_sub_cancel, nI_succ]
  grind
def LN (s : Sg) (n : Nat) : Prop := sN s = 249 ∧ sR s 11 0 = some 12 ∧ sR s 11 1 = some 13 ∧ sR s 11 2 = some 14 ∧ sI s 11 3 = nI n ∧ 0 < n ∧ n < 7
theorem LN.on {s s' : Sg} {n c : Nat} (h : LN s n) (ho : On s s' c) (hc : c ≠ 11) : LN s' n := by
  obtain ⟨h1, h2, h3, h4, h5, h6⟩ := h
  exact ⟨ho.1.trans h1, by rw [ho.2.1]; exact h2, by rw [ho.2.1]; exact h3, by rw [ho.2.1]; exact h4, by rw [ho.2.2.2 11 3 (fun z => hc z.symm)]; exact h5, h6⟩
section LINE
variable {s : Sg} {n : Nat} {F : Nat → Nat}
theorem swap_ok {i j : Nat} (hL : LN s n) (h : RW s 13 F n) (hi : i < n) (hj : j < n) : mX4_swap 11 (nI i) (nI j) s = some ((), uI (uI s 13 i (nI (F j))) 13 j (nI (F i))) := by
  obtain ⟨hN, h0, h1, h2, h3, h4, h5⟩ := hL
  unfold mX4_swap
  rw [gdR_at (by decide) (by rw [hN]; decide), h1, alI_n (show i < ln 13 from show i < 6 by omega) (by decide) (by rw [hN]; decide), h i hi, gdR_at (by decide) (by rw [hN]; decide), h1, gdR_at (by decide) (by rw [hN]; decide), h1, alI_n (show j < ln 13 from show j < 6 by omega) (by decide) (by rw [hN]; decide), h j hj, asI_n (show i < ln 13 from show i < 6 by omega) (by decide) (by rw [hN]; decide), gdR_at (by decide) (by rw [sN_uI, hN]; decide), sR_uI, h1, asI_n (show j < ln 13 from show j < 6 by omega) (by decide) (by rw [sN_uI, hN]; decide)]
theorem rev_ok : ∀ (u : Nat) (F : Nat → Nat) (s : Sg) (lo hi f : Nat), LN s n → RW s 13 F n → hi < n → lo ≤ n → hi ≤ lo + 2 * u → u < f → ∃ s', lp (mX4_stepRow_b93 11) f (nI lo, nI hi) s = some (1, s') ∧ RW s' 13 (rvF u F lo hi) n ∧ On s s' 13
  | u, F, s, lo, hi, f, hL, hR, hh, hlo, hu, hf => by
    obtain ⟨f, rfl⟩ : ∃ g, f = g + 1 := ⟨f - 1, by omega⟩
    have hn := hL.2.2.2.2.2.2
    have hN := hL.1
    show ∃ s', mX4_stepRow_b93 11 (lp (mX4_stepRow_b93 11) f) (nI lo, nI hi) s = some (1, s') ∧ _
    by_cases hc : hi ≤ lo
    · refine ⟨s, ?_, ?_, On.rf⟩
      · unfold mX4_stepRow_b93
        dsimp only
        rw [if_pos (nI_le hc (by omega))]
        rfl
      · cases u with
        | zero => exact hR
        | succ u =>
          show RW s 13 (if hi ≤ lo then F else rvF u (sw F lo hi) (lo + 1) (hi - 1)) n
          rw [if_pos hc]
          exact hR
    · obtain ⟨u, rfl⟩ : ∃ v, u = v + 1 := ⟨u - 1, by omega⟩
      obtain ⟨hi, rfl⟩ : ∃ v, hi = v + 1 := ⟨hi - 1, by omega⟩
      obtain ⟨w1, w2⟩ := swp (i := lo) (j := hi + 1) hR
      obtain ⟨s', a1, a2, a3⟩ := rev_ok u (sw F lo (hi + 1)) (uI (uI s 13 lo (nI (F (hi + 1)))) 13 (hi + 1) (nI (F lo))) (lo + 1) hi f (hL.on w2 (by decide)) w1 (by omega) (by omega) (by omega) (by omega)
      refine ⟨s', ?_, ?_, w2.tr a3⟩
      · unfold mX4_stepRow_b93
        dsimp only
        rw [if_neg (nI_ge (by omega) (by omega)), cv_at (by decide) (by rw [hN]; decide), swap_ok hL hR (by omega) hh, cl_some, nI_1, nIm]
        exact a1
      · show RW s' 13 (if hi + 1 ≤ lo then F else rvF u (sw F lo (hi + 1)) (lo + 1) (hi + 1 - 1)) n
        rw [if_neg hc]
        exact a2
theorem gr_ok {i : Nat} (hL : LN s n) (hR : RW s 13 F n) (hB : ∀ k, k < n → F k < 1000) (hi : i + 1 < n) : ∀ (j f : Nat), i + 1 ≤ j → j < n → j < f → ∃ s', lp (mX4_stepRow_b47 11 (nI i)) f (nI j) s = some (1, s') ∧ RW s' 13 (rvF n (sw F i (grF F i j)) (i + 1) (n - 1)) n ∧ On s s' 13
  | j, f, h1, h2, hf => by
    obtain ⟨f, rfl⟩ : ∃ g, f = g + 1 := ⟨f - 1, by omega⟩
    obtain ⟨j, rfl⟩ : ∃ v, j = v + 1 := ⟨j - 1, by omega⟩
    have hL0 := hL
    obtain ⟨hN, q0, q1, q2, q3, q4, q5⟩ := hL
    have hbi := hB i (by omega)
    have hbj := hB (j + 1) h2
    have eg : grF F i (j + 1) = if j + 1 ≤ i + 1 then j + 1 else if F (j + 1) < F i then grF F i j else j + 1 := rfl
    have stop : ∃ s', (cv s 4 (some 11) fun a25 => cl (mX4_swap a25 (nI i) (nI (j + 1)) s) fun (_ : Unit) s16 => gdI s16 4 3 (some 11) fun v17 => lp (mX4_stepRow_b93 11) FU ((nI i + 1), (v17 - 1)) s16) = some (1, s') ∧ RW s' 13 (rvF n (sw F i (j + 1)) (i + 1) (n - 1)) n ∧ On s s' 13 := by
      obtain ⟨w1, w2⟩ := swp (i := i) (j := j + 1) hR
      obtain ⟨s', a1, a2, a3⟩ := rev_ok n (sw F i (j + 1)) (uI (uI s 13 i (nI (F (j + 1)))) 13 (j + 1) (nI (F i))) (i + 1) (n - 1) FU (hL0.on w2 (by decide)) w1 (by omega) (by omega) (by omega) (show n < 4000 by omega)
      refine ⟨s', ?_, a2, w2.tr a3⟩
      have e1 : nI n - 1 = nI (n - 1) := pk_sub (b := 1) (by omega)
      rw [cv_at (by decide) (by rw [hN]; decide), swap_ok hL0 hR (by omega) h2, cl_some, gdI_at (by decide) (by rw [sN_uI, sN_uI, hN]; decide), sI_ne (by decide), sI_ne (by decide), q3, nI_1, e1]
      exact a1
    show ∃ s', mX4_stepRow_b47 11 (nI i) (lp (mX4_stepRow_b47 11 (nI i)) f) (nI (j + 1)) s = some (1, s') ∧ _
    unfold mX4_stepRow_b47
    rw [jn_eq, nI_1 i, eg]
    by_cases hc : j + 1 ≤ i + 1
    · rw [if_pos (nI_le hc (by omega)), if_pos hc]
      rw [nI_1 i] at stop
      exact stop
    · rw [if_neg (nI_ge (by omega) (by omega)), if_neg hc, gdR_at (by decide) (by rw [hN]; decide), q1, alI_n (show j + 1 < ln 13 from show j + 1 < 6 by omega) (by decide) (by rw [hN]; decide), hR _ h2, gdR_at (by decide) (by rw [hN]; decide), q1, alI_n (show i < ln 13 from show i < 6 by omega) (by decide) (by rw [hN]; decide), hR i (by omega)]
      by_cases hd : F (j + 1) < F i
      · rw [if_neg (nI_ge hd (by omega)), if_pos hd, nIm]
        exact gr_ok hL0 hR hB hi j f (by omega) (by omega) (by omega)
      · rw [if_pos (nI_le (by omega) (by omega)), if_neg hd]
        rw [nI_1 i] at stop
        exact stop
theorem ris_ok (hL : LN s n) (hR : RW s 13 F n) (hB : ∀ k, k < n → F k < 1000) : ∀ (t f : Nat), t < n → t < f → (risF F t = none → lp (mX4_stepRow_b7 11) f (nI t - 1) s = some (0, s)) ∧ ∀ i, risF F t = some i → ∃ s', lp (mX4_stepRow_b7 11) f (nI t - 1) s = some (1, s') ∧ RW s' 13 (rvF n (sw F i (grF F i (n - 1))) (i + 1) (n - 1)) n ∧ On s s' 13
  | 0, f, ht, hf => by
    obtain ⟨f, rfl⟩ : ∃ g, f = g + 1 := ⟨f - 1, by omega⟩
    refine ⟨fun _ => ?_, fun i h => by cases h⟩
    show mX4_stepRow_b7 11 (lp (mX4_stepRow_b7 11) f) (nI 0 - 1) s = _
    unfold mX4_stepRow_b7
    rw [jn_eq, if_pos (show nI 0 - 1 < 0 by decide)]
    dsimp only
    rw [if_neg (show ¬ 0 ≤ nI 0 - 1 by decide)]
    rfl
  | t + 1, f, ht, hf => by
    obtain ⟨f, rfl⟩ : ∃ g, f = g + 1 := ⟨f - 1, by omega⟩
    have hL0 := hL
    obtain ⟨hN, q0, q1, q2, q3, q4, q5⟩ := hL
    have ih := ris_ok hL0 hR hB t f (by omega) (by omega)
    have hb1 := hB t (by omega)
    have hb2 := hB (t + 1) ht
    have er : risF F (t + 1) = if F (t + 1) < F t then risF F t else some t := rfl
    have e1 : nI n - 1 = nI (n - 1) := pk_sub (b := 1) (by omega)
    rw [er, nI_pred]
    show ((if F (t + 1) < F t then risF F t else some t) = none → mX4_stepRow_b7 11 (lp (mX4_stepRow_b7 11) f) (nI t) s = some (0, s)) ∧ ∀ i, (if F (t + 1) < F t then risF F t else some t) = some i → ∃ s', mX4_stepRow_b7 11 (lp (mX4_stepRow_b7 11) f) (nI t) s = some (1, s') ∧ RW s' 13 (rvF n (sw F i (grF F i (n - 1))) (i + 1) (n - 1)) n ∧ On s s' 13
    have run : mX4_stepRow_b7 11 (lp (mX4_stepRow_b7 11) f) (nI t) s = if F (t + 1) < F t then lp (mX4_stepRow_b7 11) f (nI t - 1) s else lp (mX4_stepRow_b47 11 (nI t)) FU (nI (n - 1)) s := by
      show mX4_stepRow_b7 11 (fun x y => lp (mX4_stepRow_b7 11) f x y) (nI t) s = _
      unfold mX4_stepRow_b7
      rw [jn_eq, if_neg (nI_pos (by omega)), gdR_at (by decide) (by rw [hN]; decide), q1, alI_n (show t < ln 13 from show t < 6 by omega) (by decide) (by rw [hN]; decide), hR t (by omega), gdR_at (by decide) (by rw [hN]; decide), q1, nI_1, alI_n (show t + 1 < ln 13 from show t + 1 < 6 by omega) (by decide) (by rw [hN]; decide), hR _ ht]
      by_cases hc : F (t + 1) < F t
      · rw [if_neg (nI_ge hc (by omega)), if_pos hc, nIm']
      · rw [if_pos (nI_le (by omega) (by omega)), if_neg hc]
        dsimp only
        rw [if_pos (nI_pos' (by omega)), gdI_at (by decide) (by rw [hN]; decide), q3, e1]
    rw [run]
    by_cases hc : F (t + 1) < F t
    · rw [if_pos hc, if_pos hc]
      exact ih
    · rw [if_neg hc, if_neg hc]
      refine ⟨fun z => by cases z, fun i hi => ?_⟩
      have e := Option.some.inj hi
      subst e
      exact gr_ok hL0 hR hB ht (n - 1) FU (by omega) (by omega) (show n - 1 < 4000 by omega)
theorem stepRow_ok (hL : LN s n) (hR : RW s 13 F n) (hB : ∀ k, k < n → F k < 1000) : (nxF F n = none → mX4_stepRow 11 s = some (0, s)) ∧ ∀ b, nxF F n = some b → ∃ s', mX4_stepRow 11 s = some (1, s') ∧ RW s' 13 b n ∧ On s s' 13 := by
  have hL0 := hL
  obtain ⟨hN, q0, q1, q2, q3, q4, q5⟩ := hL
  have h := ris_ok hL0 hR hB (n - 1) FU (by omega) (show n - 1 < 4000 by omega)
  have e : mX4_stepRow 11 s = lp (mX4_stepRow_b7 11) FU (nI (n - 1) - 1) s := by
    unfold mX4_stepRow
    rw [gdI_at (by decide) (by rw [hN]; decide), q3, nI_m2 q4]
  rw [e]
  unfold nxF
  cases hx : risF F (n - 1) with
  | none => exact ⟨fun _ => h.1 hx, fun b hb => by cases hb⟩
  | some i =>
    refine ⟨fun z => by cases z, fun b hb => ?_⟩
    have hb := Option.some.inj hb
    subst hb
    exact h.2 i hx
/-- the pauses between those of the row -/
def PWc (s : Sg) (W : Nat → Nat → Nat) (F : Nat → Nat) (n : Nat) : Prop := ∀ i j, i < n → j < n → sI s 12 (F i * 20 + F j) = nI (W (F i) (F j))
theorem i20' (x y : Nat) : nI x * 20 + nI y = nI (x * 20 + y) := by
  rw [show (20 : Int32) = nI 20 from rfl, pk_mul, nI_add]
theorem pauseB {x y : Nat} (hL : LN s n) (hx : x < 20) (hy : y < 20) : mX4_pauseBetween 11 (nI x) (nI y) s = some (sI s 12 (x * 20 + y), s) := by
  obtain ⟨hN, q0, q1, q2, q3, q4, q5⟩ := hL
  unfold mX4_pauseBetween
  rw [gdR_at (by decide) (by rw [hN]; decide), q0, i20', alI_n (show _ < ln 12 from show _ < 400 by omega) (by decide) (by rw [hN]; decide)]
theorem smF_none {W : Nat → Nat → Nat} {a : Nat → Nat} {k : Nat} (h : smF W a k = none) : ∀ d, smF W a (k + d) = none
  | 0 => h
  | d + 1 => by
    show smF W a (k + d + 1) = none
    rw [smF, smF_none h d]
theorem sumRow_ok {W : Nat → Nat → Nat} (hL : LN s n) (hR : RW s 13 F n) (hB : ∀ k, k < n → F k < 20) (hP : PWc s W F n) (hW : ∀ x y, W x y ≤ 60) : mX4_sumOfRow 11 s = some (match smF W F (n - 1) with
    | some v => nI v
    | none => -1, s) := by
  have hL0 := hL
  obtain ⟨hN, q0, q1, q2, q3, q4, q5⟩ := hL
  refine lp_inv (F := mX4_sumOfRow_b4 11) (n := n - 1) (I := fun k q s' => s' = s ∧ ∃ v, smF W F k = some v ∧ q = (nI v, nI (k + 1))) (Q := fun x => x = some (match smF W F (n - 1) with
    | some v => nI v
    | none => -1, s)) (fun q s' r h => ?_) (fun k q s' r hk h hr => ?_) FU 0 (Nat.zero_le _) (show n - 1 - 0 < 4000 by omega) _ _ ⟨rfl, 0, rfl, rfl⟩
  · obtain ⟨rfl, v, hv, rfl⟩ := h
    unfold mX4_sumOfRow_b4
    rw [gdI_at (by decide) (by rw [hN]; decide), q3]
    dsimp only
    rw [if_pos (nI_le (by omega) (by omega)), hv]
  · obtain ⟨rfl, v, hv, rfl⟩ := h
    unfold mX4_sumOfRow_b4
    rw [gdI_at (by decide) (by rw [hN]; decide), q3]
    dsimp only
    rw [if_neg (nI_ge (by omega) (by omega)), gdR_at (by decide) (by rw [hN]; decide), q1, nI_pred, alI_n (show k < ln 13 from show k < 6 by omega) (by decide) (by rw [hN]; decide), hR k (by omega), gdR_at (by decide) (by rw [hN]; decide), q1, alI_n (show k + 1 < ln 13 from show k + 1 < 6 by omega) (by decide) (by rw [hN]; decide), hR (k + 1) (by omega), cv_at (by decide) (by rw [hN]; decide), pauseB hL0 (hB k (by omega)) (hB (k + 1) (by omega)), cl_some, hP k (k + 1) (by omega) (by omega)]
    have hw := hW (F k) (F (k + 1))
    have es : smF W F (k + 1) = if W (F k) (F (k + 1)) = 0 then none else some (v + W (F k) (F (k + 1))) := by
      rw [smF, hv]
    by_cases hz : W (F k) (F (k + 1)) = 0
    · rw [hz, if_neg (fun z => z rfl)]
      rw [if_pos hz] at es
      have := smF_none es (n - 1 - (k + 1))
      rw [show k + 1 + (n - 1 - (k + 1)) = n - 1 by omega] at this
      rw [this]
    · rw [if_pos (nI_ne0 (by omega) (by omega)), nI_add, nI_1]
      rw [if_neg hz] at es
      exact hr _ _ ⟨rfl, _, es, rfl⟩
end LINE
