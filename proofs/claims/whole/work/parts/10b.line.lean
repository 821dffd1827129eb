/-! THE CLASS'S LINE -/
def On (s s' : Sg) (c : Nat) : Prop := sN s' = sN s ∧ sR s' = sR s ∧ sF s' = sF s ∧ ∀ a q, a ≠ c → sI s' a q = sI s a q
def RW (s : Sg) (c : Nat) (F : Nat → Nat) (n : Nat) : Prop := ∀ k, k < n → sI s c k = nI (F k)
theorem On.rf {s : Sg} {c : Nat} : On s s c := ⟨rfl, rfl, rfl, fun _ _ _ => rfl⟩
theorem On.tr {s s1 s2 : Sg} {c : Nat} (h : On s s1 c) (h2 : On s1 s2 c) : On s s2 c := ⟨h2.1.trans h.1, h2.2.1.trans h.2.1, h2.2.2.1.trans h.2.2.1, fun a q z => (h2.2.2.2 a q z).trans (h.2.2.2 a q z)⟩
theorem On.u {s : Sg} {c k : Nat} {v : Int32} : On s (uI s c k v) c := ⟨rfl, rfl, rfl, fun _ _ z => sI_ne z⟩
theorem On.toS {s s' : Sg} {c : Nat} (h : On s s' c) (hc : (12 ≤ c ∧ c ≤ 14) ∨ 237 ≤ c) : Scr s s' := ⟨h.1, h.2.1, h.2.2.1, fun a q z => h.2.2.2 a q (by
  intro e
  subst e
  revert z
  unfold scr
  omega)⟩
theorem RW.cg {s : Sg} {c n : Nat} {F G : Nat → Nat} (h : RW s c F n) (e : ∀ k, k < n → F k = G k) : RW s c G n := fun k hk => by rw [← e k hk]; exact h k hk
theorem RW.on {s s' : Sg} {c d n : Nat} {F : Nat → Nat} (h : RW s c F n) (ho : On s s' d) (hcd : c ≠ d) : RW s' c F n := fun k hk => by rw [ho.2.2.2 c k hcd]; exact h k hk
theorem swp {s : Sg} {c n i j : Nat} {F : Nat → Nat} (h : RW s c F n) : RW (uI (uI s c i (nI (F j))) c j (nI (F i))) c (sw F i j) n ∧ On s (uI (uI s c i (nI (F j))) c j (nI (F i))) c := by
  refine ⟨fun k hk => ?_, On.u.tr On.u⟩
  unfold sw
  rw [sI_if, sI_if]
  by_cases h1 : k = i
  · subst h1
    by_cases h2 : k = j
    · subst h2
      rw [if_pos ⟨rfl, rfl⟩, if_pos rfl]
    · rw [if_neg (fun z => h2 z.2), if_pos ⟨rfl, rfl⟩, if_pos rfl]
  · by_cases h2 : k = j
    · subst h2
      rw [if_pos ⟨rfl, rfl⟩, if_neg h1, if_pos rfl]
    · rw [if_neg (fun z => h2 z.2), if_neg (fun z => h1 z.2), if_neg h1, if_neg h2]
      exact h k hk
theorem nIm (k : Nat) : nI (k + 1) + (-1) = nI k := by
  rw [← Int32.sub_eq_add_neg, nI_pred]
theorem nIm' (k : Nat) : nI k + (-1) = nI k - 1 := (Int32.sub_eq_add_neg _ _).symm
theorem nI_m2 {n : Nat} (h : 0 < n) : nI n - 2 = nI (n - 1) - 1 := by
  obtain ⟨k, rfl⟩ : ∃ k, n = k + 1 := ⟨n - 1, by omega⟩
  rw [Nat.add_sub_cancel, nI_succ]
  grind
def LN (s : Sg) (n : Nat) : Prop := sN s = 249 ∧ sR s 11 0 = some 12 ∧ sR s 11 1 = some 13 ∧ sR s 11 2 = some 14 ∧ sI s 11 3 = nI n ∧ 0 < n ∧ n < 7
theorem LN.on {s s' : Sg} {n c : Nat} (h : LN s n) (ho : On s s' c) (hc : c ≠ 11) : LN s' n := by
  obtain ⟨h1, h2, h3, h4, h5, h6⟩ := h
  exact ⟨ho.1.trans h1, by rw [ho.2.1]; exact h2, by rw [ho.2.1]; exact h3, by rw [ho.2.1]; exact h4, by rw [ho.2.2.2 11 3 (fun z => hc z.symm)]; exact h5, h6⟩
section LINE
variable {s : Sg} {n : Nat} {F : Nat → Nat}
theorem swap_ok {i j : Nat} (hL : LN s n) (h : RW s 13 F n) (hi : i < n) (hj : j < n) : mX4_swap 11 (nI i) (nI j) s = some ((), uI (uI s 13 i (nI (F j))) 13 j (nI (F i))) := by
  obtain ⟨hN, h0, h1, h2, h3, h4, h5⟩ := hL
  unfold mX4_swap
  rw [gdR_at (by decide) (by rw [hN]; decide), h1, alI_n (show i < ln 13 from show i < 6 by omega) (by decide) (by rw [hN]; decide), h i hi, gdR_at (by decide) (by rw [hN]; decide), h1, gdR_at (by decide) (by rw [hN]; decide), h1, alI_n (show j < ln 13 from show j < 6 by omega) (by decide) (by rw [hN]; decide), h j hj, asI_n (show i < ln 13 from show i < 6 by omega) (by decide) (by rw [hN]; decide), gdR_at (by decide) (by rw [sN_uI, hN]; decide), sR_uI, h1, asI_n (show j < ln 13 from show j < 6 by omega) (by decide) (by rw [sN_uI, hN]; decide)]
theorem rev_ok : ∀ (u : Nat) (F : Nat → Nat) (s : Sg) (lo hi f : Nat), LN s n → RW s 13 F n → hi < n → lo ≤ n → hi ≤ lo + 2 * u → u < f → ∃ s', lp (mX4_stepRow_b93 11) f (nI lo, nI hi) s = some (1, s') ∧ RW s' 13 (rvF u F lo hi) n ∧ On s s' 13
  | u, F, s, lo, hi, f, hL, hR, hh, hlo, hu, hf => by
    obtain ⟨f, rfl⟩ : ∃ g, f = g + 1 := ⟨f - 1, by omega⟩
    have hn := hL.2.2.2.2.2.2
    have hN := hL.1
    show ∃ s', mX4_stepRow_b93 11 (lp (mX4_stepRow_b93 11) f) (nI lo, nI hi) s = some (1, s') ∧ _
    by_cases hc : hi ≤ lo
    · refine ⟨s, ?_, ?_, On.rf⟩
      · unfold mX4_stepRow_b93
        dsimp only
        rw [if_pos (nI_le hc (by omega))]
        rfl
      · cases u with
        | zero => exact hR
        | succ u =>
          show RW s 13 (if hi ≤ lo then F else rvF u (sw F lo hi) (lo + 1) (hi - 1)) n
          rw [if_pos hc]
          exact hR
    · obtain ⟨u, rfl⟩ : ∃ v, u = v + 1 := ⟨u - 1, by omega⟩
      obtain ⟨hi, rfl⟩ : ∃ v, hi = v + 1 := ⟨hi - 1, by omega⟩
      obtain ⟨w1, w2⟩ := swp (i := lo) (j := hi + 1) hR
      obtain ⟨s', a1, a2, a3⟩ := rev_ok u (sw F lo (hi + 1)) (uI (uI s 13 lo (nI (F (hi + 1)))) 13 (hi + 1) (nI (F lo))) (lo + 1) hi f (hL.on w2 (by decide)) w1 (by omega) (by omega) (by omega) (by omega)
      refine ⟨s', ?_, ?_, w2.tr a3⟩
      · unfold mX4_stepRow_b93
        dsimp only
        rw [if_neg (nI_ge (by omega) (by omega)), cv_at (by decide) (by rw [hN]; decide), swap_ok hL hR (by omega) hh, cl_some, nI_1, nIm]
        exact a1
      · show RW s' 13 (if hi + 1 ≤ lo then F else rvF u (sw F lo (hi + 1)) (lo + 1) (hi + 1 - 1)) n
        rw [if_neg hc]
        exact a2
theorem grw_ok {i : Nat} (hL : LN s n) (hR : RW s 13 F n) (hB : ∀ k, k < n → F k < 1000) (hi : i + 1 < n) : ∀ (j f : Nat), i + 1 ≤ j → j < n → j < f → ∃ s', lp (mX4_stepRow_b47 11 (nI i)) f (nI j) s = some (1, s') ∧ RW s' 13 (rvF n (sw F i (grF F i j)) (i + 1) (n - 1)) n ∧ On s s' 13
  | j, f, h1, h2, hf => by
    obtain ⟨f, rfl⟩ : ∃ g, f = g + 1 := ⟨f - 1, by omega⟩
    obtain ⟨j, rfl⟩ : ∃ v, j = v + 1 := ⟨j - 1, by omega⟩
    have hL0 := hL
    obtain ⟨hN, q0, q1, q2, q3, q4, q5⟩ := hL
    have hbi := hB i (by omega)
    have hbj := hB (j + 1) h2
    have eg : grF F i (j + 1) = if j + 1 ≤ i + 1 then j + 1 else if F (j + 1) < F i then grF F i j else j + 1 := rfl
    have stop : ∃ s', (cv s 4 (some 11) fun a25 => cl (mX4_swap a25 (nI i) (nI (j + 1)) s) fun (_ : Unit) s16 => gdI s16 4 3 (some 11) fun v17 => lp (mX4_stepRow_b93 11) FU ((nI i + 1), (v17 - 1)) s16) = some (1, s') ∧ RW s' 13 (rvF n (sw F i (j + 1)) (i + 1) (n - 1)) n ∧ On s s' 13 := by
      obtain ⟨w1, w2⟩ := swp (i := i) (j := j + 1) hR
      obtain ⟨s', a1, a2, a3⟩ := rev_ok n (sw F i (j + 1)) (uI (uI s 13 i (nI (F (j + 1)))) 13 (j + 1) (nI (F i))) (i + 1) (n - 1) FU (hL0.on w2 (by decide)) w1 (by omega) (by omega) (by omega) (show n < 4000 by omega)
      refine ⟨s', ?_, a2, w2.tr a3⟩
      have e1 : nI n - 1 = nI (n - 1) := pk_sub (b := 1) (by omega)
      rw [cv_at (by decide) (by rw [hN]; decide), swap_ok hL0 hR (by omega) h2, cl_some, gdI_at (by decide) (by rw [sN_uI, sN_uI, hN]; decide), sI_ne (by decide), sI_ne (by decide), q3, nI_1, e1]
      exact a1
    have ih : i + 1 ≤ j → ∃ s', lp (mX4_stepRow_b47 11 (nI i)) f (nI j) s = some (1, s') ∧ RW s' 13 (rvF n (sw F i (grF F i j)) (i + 1) (n - 1)) n ∧ On s s' 13 := fun z => grw_ok hL0 hR hB hi j f z (by omega) (by omega)
    show ∃ s', mX4_stepRow_b47 11 (nI i) (lp (mX4_stepRow_b47 11 (nI i)) f) (nI (j + 1)) s = some (1, s') ∧ _
    generalize lp (mX4_stepRow_b47 11 (nI i)) f = rec at ih ⊢
    unfold mX4_stepRow_b47
    rw [jn_eq, nI_1 i, eg]
    by_cases hc : j + 1 ≤ i + 1
    · rw [if_pos (nI_le hc (by omega)), if_pos hc]
      rw [nI_1 i] at stop
      exact stop
    · rw [if_neg (nI_ge (by omega) (by omega)), if_neg hc, gdR_at (by decide) (by rw [hN]; decide), q1, alI_n (show j + 1 < ln 13 from show j + 1 < 6 by omega) (by decide) (by rw [hN]; decide), hR _ h2, gdR_at (by decide) (by rw [hN]; decide), q1, alI_n (show i < ln 13 from show i < 6 by omega) (by decide) (by rw [hN]; decide), hR i (by omega)]
      by_cases hd : F (j + 1) < F i
      · rw [if_neg (nI_ge hd (by omega)), if_pos hd, nIm]
        exact ih (by omega)
      · rw [if_pos (nI_le (by omega) (by omega)), if_neg hd]
        rw [nI_1 i] at stop
        exact stop
theorem ris_ok (hL : LN s n) (hR : RW s 13 F n) (hB : ∀ k, k < n → F k < 1000) : ∀ (t f : Nat), t < n → t < f → (risF F t = none → lp (mX4_stepRow_b7 11) f (nI t - 1) s = some (0, s)) ∧ ∀ i, risF F t = some i → ∃ s', lp (mX4_stepRow_b7 11) f (nI t - 1) s = some (1, s') ∧ RW s' 13 (rvF n (sw F i (grF F i (n - 1))) (i + 1) (n - 1)) n ∧ On s s' 13
  | 0, f, ht, hf => by
    obtain ⟨f, rfl⟩ : ∃ g, f = g + 1 := ⟨f - 1, by omega⟩
    refine ⟨fun _ => ?_, fun i h => by cases h⟩
    show mX4_stepRow_b7 11 (lp (mX4_stepRow_b7 11) f) (nI 0 - 1) s = _
    unfold mX4_stepRow_b7
    rw [jn_eq, if_pos (show nI 0 - 1 < 0 by decide)]
    dsimp only
    rw [if_neg (show ¬ 0 ≤ nI 0 - 1 by decide)]
    rfl
  | t + 1, f, ht, hf => by
    obtain ⟨f, rfl⟩ : ∃ g, f = g + 1 := ⟨f - 1, by omega⟩
    have hL0 := hL
    obtain ⟨hN, q0, q1, q2, q3, q4, q5⟩ := hL
    have ih := ris_ok hL0 hR hB t f (by omega) (by omega)
    have hb1 := hB t (by omega)
    have hb2 := hB (t + 1) ht
    have er : risF F (t + 1) = if F (t + 1) < F t then risF F t else some t := rfl
    have e1 : nI n - 1 = nI (n - 1) := pk_sub (b := 1) (by omega)
    rw [er, nI_pred]
    show ((if F (t + 1) < F t then risF F t else some t) = none → mX4_stepRow_b7 11 (lp (mX4_stepRow_b7 11) f) (nI t) s = some (0, s)) ∧ ∀ i, (if F (t + 1) < F t then risF F t else some t) = some i → ∃ s', mX4_stepRow_b7 11 (lp (mX4_stepRow_b7 11) f) (nI t) s = some (1, s') ∧ RW s' 13 (rvF n (sw F i (grF F i (n - 1))) (i + 1) (n - 1)) n ∧ On s s' 13
    have run : mX4_stepRow_b7 11 (lp (mX4_stepRow_b7 11) f) (nI t) s = if F (t + 1) < F t then lp (mX4_stepRow_b7 11) f (nI t - 1) s else lp (mX4_stepRow_b47 11 (nI t)) FU (nI (n - 1)) s := by
      show mX4_stepRow_b7 11 (fun x y => lp (mX4_stepRow_b7 11) f x y) (nI t) s = _
      unfold mX4_stepRow_b7
      rw [jn_eq, if_neg (nI_pos (by omega)), gdR_at (by decide) (by rw [hN]; decide), q1, alI_n (show t < ln 13 from show t < 6 by omega) (by decide) (by rw [hN]; decide), hR t (by omega), gdR_at (by decide) (by rw [hN]; decide), q1, nI_1, alI_n (show t + 1 < ln 13 from show t + 1 < 6 by omega) (by decide) (by rw [hN]; decide), hR _ ht]
      by_cases hc : F (t + 1) < F t
      · rw [if_neg (nI_ge hc (by omega)), if_pos hc, nIm']
      · rw [if_pos (nI_le (by omega) (by omega)), if_neg hc]
        dsimp only
        rw [if_pos (nI_pos' (by omega)), gdI_at (by decide) (by rw [hN]; decide), q3, e1]
    rw [run]
    by_cases hc : F (t + 1) < F t
    · rw [if_pos hc, if_pos hc]
      exact ih
    · rw [if_neg hc, if_neg hc]
      refine ⟨(fun z => by cases z), fun i hi => ?_⟩
      have e := Option.some.inj hi
      subst e
      exact grw_ok hL0 hR hB ht (n - 1) FU (by omega) (by omega) (show n - 1 < 4000 by omega)
theorem stepRow_ok (hL : LN s n) (hR : RW s 13 F n) (hB : ∀ k, k < n → F k < 1000) : (nxF F n = none → mX4_stepRow 11 s = some (0, s)) ∧ ∀ b, nxF F n = some b → ∃ s', mX4_stepRow 11 s = some (1, s') ∧ RW s' 13 b n ∧ On s s' 13 := by
  have hL0 := hL
  obtain ⟨hN, q0, q1, q2, q3, q4, q5⟩ := hL
  have h := ris_ok hL0 hR hB (n - 1) FU (by omega) (show n - 1 < 4000 by omega)
  have e : mX4_stepRow 11 s = lp (mX4_stepRow_b7 11) FU (nI (n - 1) - 1) s := by
    unfold mX4_stepRow
    rw [gdI_at (by decide) (by rw [hN]; decide), q3, nI_m2 q4]
  rw [e]
  unfold nxF
  cases hx : risF F (n - 1) with
  | none => exact ⟨fun _ => h.1 hx, fun b hb => by cases hb⟩
  | some i =>
    refine ⟨(fun z => by cases z), fun b hb => ?_⟩
    have hb := Option.some.inj hb
    subst hb
    exact h.2 i hx
/-- the pauses between those of the row -/
def PWc (s : Sg) (W : Nat → Nat → Nat) (F : Nat → Nat) (n : Nat) : Prop := ∀ i j, i < n → j < n → sI s 12 (F i * 20 + F j) = nI (W (F i) (F j))
theorem i20' (x y : Nat) : nI x * 20 + nI y = nI (x * 20 + y) := by
  rw [show (20 : Int32) = nI 20 from rfl, pk_mul, nI_add]
theorem pauseB {x y : Nat} (hL : LN s n) (hx : x < 20) (hy : y < 20) : mX4_pauseBetween 11 (nI x) (nI y) s = some (sI s 12 (x * 20 + y), s) := by
  obtain ⟨hN, q0, q1, q2, q3, q4, q5⟩ := hL
  unfold mX4_pauseBetween
  rw [gdR_at (by decide) (by rw [hN]; decide), q0, i20', alI_n (show _ < ln 12 from show _ < 400 by omega) (by decide) (by rw [hN]; decide)]
theorem smF_none {W : Nat → Nat → Nat} {a : Nat → Nat} {k : Nat} (h : smF W a k = none) : ∀ d, smF W a (k + d) = none
  | 0 => h
  | d + 1 => by
    show smF W a (k + d + 1) = none
    rw [smF, smF_none h d]
theorem sumRow_ok {W : Nat → Nat → Nat} (hL : LN s n) (hR : RW s 13 F n) (hB : ∀ k, k < n → F k < 20) (hP : PWc s W F n) (hW : ∀ x y, W x y ≤ 60) : mX4_sumOfRow 11 s = some (match smF W F (n - 1) with
    | some v => nI v
    | none => -1, s) := by
  have hL0 := hL
  obtain ⟨hN, q0, q1, q2, q3, q4, q5⟩ := hL
  refine lp_inv (F := mX4_sumOfRow_b4 11) (n := n - 1) (I := fun k q s' => s' = s ∧ ∃ v, smF W F k = some v ∧ q = (nI v, nI (k + 1))) (Q := fun x => x = some (match smF W F (n - 1) with
    | some v => nI v
    | none => -1, s)) (fun q s' r h => ?_) (fun k q s' r hk h hr => ?_) FU 0 (Nat.zero_le _) (show n - 1 - 0 < 4000 by omega) _ _ ⟨rfl, 0, rfl, rfl⟩
  · obtain ⟨rfl, v, hv, rfl⟩ := h
    unfold mX4_sumOfRow_b4
    rw [gdI_at (by decide) (by rw [hN]; decide), q3]
    dsimp only
    rw [if_pos (nI_le (by omega) (by omega)), hv]
  · obtain ⟨rfl, v, hv, rfl⟩ := h
    unfold mX4_sumOfRow_b4
    rw [gdI_at (by decide) (by rw [hN]; decide), q3]
    dsimp only
    rw [if_neg (nI_ge (by omega) (by omega)), gdR_at (by decide) (by rw [hN]; decide), q1, nI_pred, alI_n (show k < ln 13 from show k < 6 by omega) (by decide) (by rw [hN]; decide), hR k (by omega), gdR_at (by decide) (by rw [hN]; decide), q1, alI_n (show k + 1 < ln 13 from show k + 1 < 6 by omega) (by decide) (by rw [hN]; decide), hR (k + 1) (by omega), cv_at (by decide) (by rw [hN]; decide), pauseB hL0 (hB k (by omega)) (hB (k + 1) (by omega)), cl_some, hP k (k + 1) (by omega) (by omega)]
    have hw := hW (F k) (F (k + 1))
    have es : smF W F (k + 1) = if W (F k) (F (k + 1)) = 0 then none else some (v + W (F k) (F (k + 1))) := by
      rw [smF, hv]
    by_cases hz : W (F k) (F (k + 1)) = 0
    · rw [hz, if_neg (fun z => z rfl)]
      rw [if_pos hz] at es
      have := smF_none es (n - 1 - (k + 1))
      rw [show k + 1 + (n - 1 - (k + 1)) = n - 1 by omega] at this
      rw [this]
    · rw [if_pos (nI_ne0 (by omega) (by omega)), nI_add, nI_1]
      rw [if_neg hz] at es
      exact hr _ _ ⟨rfl, _, es, rfl⟩
end LINE
/-! the shortest order -/
/-- the row of order t: the numbers f of its places -/
def prw (f : Nat → Nat) (n t : Nat) : Nat → Nat := fun k => f (pa n t k)
def sT (W : Nat → Nat → Nat) (f : Nat → Nat) (n : Nat) : Nat → Option Nat := fun t => smF W (prw f n t) (n - 1)
section SHORT
variable {n : Nat} {f : Nat → Nat} {W : Nat → Nat → Nat}
theorem On2 {s s' : Sg} (h : On s s' 13) : sI s' 12 = sI s 12 ∧ sI s' 14 = sI s 14 ∧ sI s' 11 = sI s 11 := ⟨funext fun q => h.2.2.2 _ _ (by decide), funext fun q => h.2.2.2 _ _ (by decide), funext fun q => h.2.2.2 _ _ (by decide)⟩
/-- what changes: row, best and the line's own fields -/
def Ln3 (s s' : Sg) : Prop := sN s' = sN s ∧ sR s' = sR s ∧ sF s' = sF s ∧ (∀ a q, ¬ (a = 13 ∨ a = 14 ∨ (a = 11 ∧ q = 4)) → sI s' a q = sI s a q)
theorem Ln3.rf {s : Sg} : Ln3 s s := ⟨rfl, rfl, rfl, fun _ _ _ => rfl⟩
theorem Ln3.tr {s s1 s2 : Sg} (h : Ln3 s s1) (h2 : Ln3 s1 s2) : Ln3 s s2 := ⟨h2.1.trans h.1, h2.2.1.trans h.2.1, h2.2.2.1.trans h.2.2.1, fun a q z => (h2.2.2.2 a q z).trans (h.2.2.2 a q z)⟩
theorem Ln3.on {s s1 : Sg} (h : On s s1 13) : Ln3 s s1 := ⟨h.1, h.2.1, h.2.2.1, fun a q z => h.2.2.2 a q (fun e => z (Or.inl e))⟩
theorem Ln3.ln {s s1 : Sg} (h : Ln3 s s1) (hL : LN s n) : LN s1 n := by
  obtain ⟨h1, h2, h3, h4, h5, h6⟩ := hL
  exact ⟨h.1.trans h1, by rw [h.2.1]; exact h2, by rw [h.2.1]; exact h3, by rw [h.2.1]; exact h4, by rw [h.2.2.2 11 3 (by omega)]; exact h5, h6⟩
/-- best and shortest hold what bs says -/
def BSc (s : Sg) (n : Nat) (f : Nat → Nat) (b : Option (Nat × Nat)) (fd : Int32) : Prop := match b with
  | none => fd = 0
  | some (v, u) => fd = 1 ∧ sI s 11 4 = nI v ∧ RW s 14 (prw f n u) n
theorem findShort_ok {s : Sg} (hL : LN s n) (hf : inc f n) (hB : ∀ k, k < n → f k < 20) (hW : ∀ x y, W x y ≤ 60) (hP : ∀ x y, x < n → y < n → sI s 12 (f x * 20 + f y) = nI (W (f x) (f y))) (hR : RW s 13 f n) : ∃ s' fd, mX4_findShortest 11 s = some (fd, s') ∧ Ln3 s s' ∧ BSc s' n f (bsF (sT W f n) (pts n).length) fd := by
  have h0 := hL.2.2.2.2.2.1
  have h7 := hL.2.2.2.2.2.2
  obtain ⟨l1, l2⟩ := len_all h0 h7
  refine lp_inv (F := mX4_findShortest_b4 11) (n := (pts n).length) (I := fun t q s' => t < (pts n).length ∧ Ln3 s s' ∧ q.2 = nI t ∧ RW s' 13 (prw f n t) n ∧ BSc s' n f (bsF (sT W f n) t) q.1) (Q := fun x => ∃ s' fd, x = some (fd, s') ∧ Ln3 s s' ∧ BSc s' n f (bsF (sT W f n) (pts n).length) fd) (fun q s' r h => absurd h.1 (Nat.lt_irrefl _)) (fun t q s' r ht h hr => ?_) FU 0 (Nat.zero_le _) (show (pts n).length - 0 < 4000 by omega) _ _ ⟨l1, Ln3.rf, rfl, fun k hk => by
    show sI s 13 k = nI (f (pa n 0 k))
    rw [pa_0 h0 h7 k hk]
    exact hR k hk, rfl⟩
  obtain ⟨q1, q2⟩ := q
  obtain ⟨-, c1, c2, c3, c4⟩ := h
  dsimp only at c2 c4
  subst c2
  have hL' := c1.ln hL
  have hL0 := hL'
  obtain ⟨hN, y0, y1, y2, y3, y4, y5⟩ := hL'
  have hperm := pa_perm h0 h7 ht
  have hBt : ∀ k, k < n → prw f n t k < 20 := fun k hk => hB _ (hperm k hk).1
  have hPt : PWc s' W (prw f n t) n := fun i j hi hj => by
    rw [c1.2.2.2 12 _ (by omega)]
    exact hP _ _ (hperm i hi).1 (hperm j hj).1
  have hsum := sumRow_ok hL0 c3 hBt hPt hW
  -- what follows the choice
  have tail : ∀ (fd : Int32) (s1 : Sg), Ln3 s' s1 → RW s1 13 (prw f n t) n → BSc s1 n f (bsF (sT W f n) (t + 1)) fd → (fd = 0 ∨ fd = 1) → ∃ s2 fd2, (cv s1 4 (some 11) fun a11 => cl (mX4_stepRow a11 s1) fun v9 s10 => if ¬ v9 = 0 then r (fd, (nI t + 1)) s10 else ckB fd (some (fd, s10))) = some (fd2, s2) ∧ Ln3 s s2 ∧ BSc s2 n f (bsF (sT W f n) (pts n).length) fd2 := by
    intro fd s1 d1 d2 d3 d4
    have hL1 := d1.ln hL0
    obtain ⟨e1, e2⟩ := stepRow_ok hL1 d2 (fun k hk => by have := hBt k hk; omega)
    have hcomp := nxF_comp (a := pa n t) h0 hf (fun k hk => (hperm k hk).1)
    rw [cv_at (by decide) (by rw [hL1.1]; decide)]
    by_cases hlast : t + 1 = (pts n).length
    · have hn : nxF (prw f n t) n = none := by
        have h9 := pa_last h0 h7 hlast
        rw [h9] at hcomp
        exact hcomp
      rw [e1 hn, cl_some, if_neg (fun z => z rfl)]
      refine ⟨s1, fd, ?_, c1.tr d1, by rw [← hlast]; exact d3⟩
      rcases d4 with rfl | rfl
      · rfl
      · rfl
    · obtain ⟨b, hb, hb2⟩ := pa_next h0 h7 (show t + 1 < (pts n).length by omega)
      rw [hb] at hcomp
      obtain ⟨s2, g1, g2, g3⟩ := e2 _ hcomp
      rw [g1, cl_some, if_pos (by decide), nI_1]
      refine hr _ _ ⟨by omega, (c1.tr d1).tr (Ln3.on g3), rfl, g2.cg (fun k hk => by
        show f (b k) = f (pa n (t + 1) k)
        rw [hb2 k hk]), ?_⟩
      show BSc s2 n f (bsF (sT W f n) (t + 1)) fd
      unfold BSc at d3 ⊢
      obtain ⟨w1, w2, w3⟩ := On2 g3
      unfold RW at d3 ⊢
      rw [w2, w3]
      exact d3
  have d41 : q1 = 0 ∨ q1 = 1 := by
    unfold BSc at c4
    cases hx : bsF (sT W f n) t with
    | none => rw [hx] at c4; exact Or.inl c4
    | some b => rw [hx] at c4; exact Or.inr c4.1
  have ebs : bsF (sT W f n) (t + 1) = match sT W f n t with
      | none => bsF (sT W f n) t
      | some v => match bsF (sT W f n) t with
        | none => some (v, t)
        | some (w, u) => if v < w then some (v, t) else some (w, u) := rfl
  have hst : sT W f n t = smF W (prw f n t) (n - 1) := rfl
  unfold mX4_findShortest_b4
  dsimp only
  rw [if_neg (show ¬ (720 : Int32) ≤ nI t from nI_ge (b := 720) (by omega) (by decide)), cv_at (by decide) (by rw [hN]; decide), hsum, cl_some, jn_eq]
  cases hx : smF W (prw f n t) (n - 1) with
  | none =>
    rw [hst, hx] at ebs
    dsimp only at ebs ⊢
    rw [if_pos (by decide)]
    exact tail q1 s' Ln3.rf c3 (by rw [ebs]; exact c4) d41
  | some v =>
    have hvb := (smF_b hW (n - 1) v hx).1
    rw [hst, hx] at ebs
    dsimp only at ebs ⊢
    rw [if_neg (nI_pos (by omega)), jn_eq]
    -- the row becomes the best one
    have take : bsF (sT W f n) (t + 1) = some (v, t) → ∃ s2 fd2, (ptI s' 4 4 (some 11) (nI v) fun s15 => gdR s15 4 1 (some 11) fun v16 => gdR s15 4 2 (some 11) fun v17 => gdI s15 4 3 (some 11) fun v18 => acI s15 v16 0 v17 0 v18 fun s19 => cv s19 4 (some 11) fun a11 => cl (mX4_stepRow a11 s19) fun v9 s10 => if ¬ v9 = 0 then r (1, (nI t + 1)) s10 else ckB 1 (some (1, s10))) = some (fd2, s2) ∧ Ln3 s s2 ∧ BSc s2 n f (bsF (sT W f n) (pts n).length) fd2 := by
      intro he
      rw [ptI_at (by decide) (by rw [hN]; decide), gdR_at (by decide) (by rw [sN_uI, hN]; decide), sR_uI, y1, gdR_at (by decide) (by rw [sN_uI, hN]; decide), sR_uI, y2, gdI_at (by decide) (by rw [sN_uI, hN]; decide), sI_nk (by decide), y3]
      have ec : (nI n).toNatClampNeg = n := nI_clamp (by omega)
      have e00 : (0 : Int32).toNatClampNeg = 0 := by decide
      unfold acI
      dsimp only
      rw [if_pos ⟨by decide, by decide, by rw [sN_uI, hN]; decide, by rw [sN_uI, hN]; decide, by decide, by decide, nI_pos (by omega), by rw [ec, e00]; show 0 + n ≤ 6; omega, by rw [ec, e00]; show 0 + n ≤ 6; omega, by decide⟩]
      rw [ec, e00]
      refine tail 1 _ ⟨rfl, rfl, rfl, fun a q z => ?_⟩ (fun k hk => ?_) ?_ (Or.inr rfl)
      · show (if a = 14 then va_cpy (sI (uI s' 11 4 (nI v)) 13) (sI (uI s' 11 4 (nI v)) 14) 0 0 n q else sI (uI s' 11 4 (nI v)) a q) = _
        rw [if_neg (by omega), sI_if, if_neg (by omega)]
      · show (if (13 : Nat) = 14 then va_cpy (sI (uI s' 11 4 (nI v)) 13) (sI (uI s' 11 4 (nI v)) 14) 0 0 n k else sI (uI s' 11 4 (nI v)) 13 k) = _
        rw [if_neg (by decide), sI_ne (by decide)]
        exact c3 k hk
      · rw [he]
        refine ⟨rfl, ?_, fun k hk => ?_⟩
        · show (if (11 : Nat) = 14 then va_cpy (sI (uI s' 11 4 (nI v)) 13) (sI (uI s' 11 4 (nI v)) 14) 0 0 n 4 else sI (uI s' 11 4 (nI v)) 11 4) = _
          rw [if_neg (by decide), sI_s]
        · show (if (14 : Nat) = 14 then va_cpy (sI (uI s' 11 4 (nI v)) 13) (sI (uI s' 11 4 (nI v)) 14) 0 0 n k else sI (uI s' 11 4 (nI v)) 14 k) = _
          rw [if_pos rfl, pk_cpy_in (Nat.zero_le _) (by omega), sI_ne (by decide), show 0 + (k - 0) = k by omega]
          exact c3 k hk
    cases hy : bsF (sT W f n) t with
    | none =>
      rw [hy] at ebs c4
      dsimp only at ebs
      have hq : q1 = 0 := c4
      subst hq
      rw [if_pos rfl]
      exact take ebs
    | some b =>
      obtain ⟨w, u⟩ := b
      rw [hy] at ebs c4
      dsimp only at ebs
      obtain ⟨hq, c5, c6⟩ : q1 = 1 ∧ sI s' 11 4 = nI w ∧ RW s' 14 (prw f n u) n := c4
      subst hq
      have hwb := (smF_b hW (n - 1) w (bsF_sp _ t w u hy).2).1
      rw [if_neg (by decide), gdI_at (by decide) (by rw [hN]; decide), c5]
      by_cases hc : v < w
      · rw [if_neg (nI_ge hc (by omega))]
        rw [if_pos hc] at ebs
        exact take ebs
      · rw [if_pos (nI_le (by omega) (by omega))]
        rw [if_neg hc] at ebs
        exact tail 1 s' Ln3.rf c3 (by rw [ebs]; exact ⟨rfl, c5, c6⟩) (Or.inr rfl)
end SHORT
