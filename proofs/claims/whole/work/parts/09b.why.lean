/-! the reference's own tables -/
def GVm (s : Sg) (g : Nat) : Prop := g < 20 ∧ gsz s g < 5 ∧ sI s 220 g = nI (gsz s g) ∧ ∀ k, k < gsz s g → gj s g k < 32 ∧ sI s 221 (4 * g + k) = nI (gj s g k)
theorem GVm.gjm {s : Sg} {g k : Nat} (h : GVm s g) (hk : k < gsz s g) : gj s g k < 32 ∧ sI s 221 (4 * g + k) = nI (gj s g k) := h.2.2.2 k hk
def MV (s : Sg) : Prop := M0 s ∧ ∀ g, g < 20 → GVm s g ∧ sI s 216 g = nI (kN s g) ∧ kN s g < 4
theorem MV.gz {s : Sg} (h : MV s) {g : Nat} (hg : g < 20) : GVm s g := (h.2 g hg).1
theorem MV.kn {s : Sg} (h : MV s) {g : Nat} (hg : g < 20) : sI s 216 g = nI (kN s g) ∧ kN s g < 4 := (h.2 g hg).2
def LQm (s : Sg) (l m : Nat) : Prop := MV s ∧ (l < 12 ∧ m < 7 ∧ sI s 228 l = nI m) ∧ ∀ i, i < m → pgi s l i < 20 ∧ sI s 229 (6 * l + i) = nI (pgi s l i)
theorem LQ.mv {s : Sg} {l m : Nat} (h : LQ s l m) : LQm s l m := by
  obtain ⟨hr, hv, hp⟩ := h
  refine ⟨⟨hr.1.m, fun g hg => ?_⟩, ⟨hv.1, hv.2.1, hv.2.2.1⟩, fun i hi => ⟨(hp i hi).1.1, (hp i hi).2.1⟩⟩
  have hz := hr.gz hg
  have r4 : R4 s := hr.2.2.2.2.1
  obtain ⟨-, n, hn, en, hh⟩ := r4
  obtain ⟨-, -, -, -, -, d1, -⟩ := hh g hg
  obtain ⟨k, hk, e⟩ := btw_nI 4 d1 (by decide)
  have hkk : kN s g = k := by
    unfold kN
    rw [e, nI_clamp (by omega)]
  refine ⟨⟨hg, hz.2.1, hz.2.2.1, fun k hk => ⟨(hz.gjm hk).1, (hz.gjm hk).2.1⟩⟩, ?_, ?_⟩
  · rw [hkk]; exact e
  · omega
theorem LQm.me {s s1 : Sg} {l m : Nat} (h : LQm s l m) (hS : MEq s s1) : LQm s1 l m := by
  unfold LQm MV GVm gsz gj kN pgi at h ⊢
  rw [hS.eq (a := 220) (by omega), hS.eq (a := 221) (by omega), hS.eq (a := 216) (by omega), hS.eq (a := 228) (by omega), hS.eq (a := 229) (by omega)]
  exact ⟨⟨hS.1, h.1.2⟩, h.2⟩
section MWY
variable {s : Sg} {l m g h : Nat} {day so : Int32}
/-! the reference -/
theorem mEmpty (hQ : LQm s l m) : BoE (mX9_hasEmpty 207 (nI l) s) (fun v => some (v, s)) (cE s l m) := by
  obtain ⟨hr, ⟨hl, hm, z1⟩, hp⟩ := hQ
  have hM := hr.1
  have hN := hM.1
  rcases Nat.eq_zero_or_pos m with h0 | h0
  · subst h0
    refine ⟨fun _ => ?_, fun z => absurd (Or.inl rfl) z⟩
    unfold mX9_hasEmpty
    rw [mR hM 22 228 rfl (by decide) (by decide), alI_n (show l < ln 228 from hl) (by decide) (by omega), z1, if_neg (fun z => z rfl)]
    show mX9_hasEmpty_b17_ 207 (nI l) (lp (mX9_hasEmpty_b17_ 207 (nI l)) 3999) (1, 0) s = _
    unfold mX9_hasEmpty_b17_
    rw [mR hM 22 228 rfl (by decide) (by decide), alI_n (show l < ln 228 from hl) (by decide) (by omega), z1]
    dsimp only
    rw [if_pos (by decide)]
    rfl
  have e1 : mX9_hasEmpty 207 (nI l) s = lp (mX9_hasEmpty_b17 207 (nI l)) FU (0, 0) s := by
    unfold mX9_hasEmpty
    rw [mR hM 22 228 rfl (by decide) (by decide), alI_n (show l < ln 228 from hl) (by decide) (by omega), z1, if_pos (nI_ne0 h0 (by omega))]
  rw [e1]
  refine (bo_acc (F := mX9_hasEmpty_b17 207 (nI l)) (s := s) (n := m) (c := fun i => sI s 220 (pgi s l i) = 0) (E := fun v => ckB v (some (v, s))) (fun v r => ?_) (fun k hk r => ?_) (fun k hk hc r => ?_) (fun k hk hc r => ?_) FU 0 (Nat.zero_le _) (show m - 0 < 4000 by omega)).2.iff ⟨fun ⟨k, _, a, b⟩ => Or.inr ⟨k, a, b⟩, fun z => ?_⟩
  · unfold mX9_hasEmpty_b17
    rw [mR hM 22 228 rfl (by decide) (by decide), alI_n (show l < ln 228 from hl) (by decide) (by omega), z1, if_pos (Int32.le_refl _)]
  · unfold mX9_hasEmpty_b17
    rw [mR hM 22 228 rfl (by decide) (by decide), alI_n (show l < ln 228 from hl) (by decide) (by omega), z1]
    dsimp only
    rw [if_neg (nI_ge hk (by omega)), if_pos (by decide)]
  · obtain ⟨q1, q2⟩ := hp k hk
    unfold mX9_hasEmpty_b17
    rw [mR hM 22 228 rfl (by decide) (by decide), alI_n (show l < ln 228 from hl) (by decide) (by omega), z1]
    dsimp only
    rw [if_neg (nI_ge hk (by omega)), if_neg (by decide), mR hM 13 220 rfl (by decide) (by decide), mR hM 23 229 rfl (by decide) (by decide), i6, alI_n (show 6 * l + k < ln 229 from show _ < 72 by omega) (by decide) (by omega), q2, alI_n (show _ < ln 220 from q1) (by decide) (by omega), hc, if_neg (fun z => z rfl)]
  · obtain ⟨q1, q2⟩ := hp k hk
    unfold mX9_hasEmpty_b17
    rw [mR hM 22 228 rfl (by decide) (by decide), alI_n (show l < ln 228 from hl) (by decide) (by omega), z1]
    dsimp only
    rw [if_neg (nI_ge hk (by omega)), if_neg (by decide), mR hM 13 220 rfl (by decide) (by decide), mR hM 23 229 rfl (by decide) (by decide), i6, alI_n (show 6 * l + k < ln 229 from show _ < 72 by omega) (by decide) (by omega), q2, alI_n (show _ < ln 220 from q1) (by decide) (by omega), if_pos hc]
  · rcases z with z | ⟨k, a, b⟩
    · omega
    · exact ⟨k, Nat.zero_le _, a, b⟩
theorem mWeightOn (hQ : LQm s l m) : mX9_weightOn 207 (nI l) s = some (lws s l m, s) := by
  obtain ⟨hr, ⟨hl, hm, z1⟩, hp⟩ := hQ
  have hM := hr.1
  have hN := hM.1
  refine lp_run (F := mX9_weightOn_b4 207 (nI l)) (n := m) (q := fun k => (lws s l k, nI k)) (S := fun _ => s) (fun r => ?_) (fun k hk r => ?_) FU 0 (Nat.zero_le _) (show m - 0 < 4000 by omega)
  · unfold mX9_weightOn_b4
    rw [mR hM 22 228 rfl (by decide) (by decide), alI_n (show l < ln 228 from hl) (by decide) (by omega), z1, if_pos (Int32.le_refl _)]
  · obtain ⟨q1, q2⟩ := hp k hk
    have hz := hr.gz q1
    unfold mX9_weightOn_b4
    rw [mR hM 22 228 rfl (by decide) (by decide), alI_n (show l < ln 228 from hl) (by decide) (by omega), z1]
    dsimp only
    rw [if_neg (nI_ge hk (by omega)), mR hM 23 229 rfl (by decide) (by decide), i6, alI_n (show 6 * l + k < ln 229 from show _ < 72 by omega) (by decide) (by omega), q2, c9 hN, mWeight hM q1 hz.2.1 hz.2.2.1 (fun j hj => ⟨gj s (pgi s l k) j, (hz.gjm hj).1, (hz.gjm hj).2⟩), cl_some, nI_1]
    rfl
theorem mOldGear (hQ : LQm s l m) : BoE (mX9_hasOldGear 207 (nI l) day s) (fun v => some (v, s)) (cW5 s l m day) := by
  obtain ⟨hr, ⟨hl, hm, z1⟩, hp⟩ := hQ
  have hM := hr.1
  have hN := hM.1
  have inner : ∀ i, i < m → ∀ (r3 : (Int32 × Int32) → Sg → Option (Int32 × Sg)) (w : Int32), lp (mX9_hasOldGear_b33 207 (nI (pgi s l i)) r3 (w, nI i) day) FU (1, 0) s = r3 (1, nI i + 1) s ∧ BoE (lp (mX9_hasOldGear_b33 207 (nI (pgi s l i)) r3 (w, nI i) day) FU (0, 0) s) (fun b => r3 (b, nI i + 1) s) (c5g s (pgi s l i) day) := by
    intro i hi r3 w
    obtain ⟨q1, q2⟩ := hp i hi
    have hz := hr.gz q1
    have hg5 := hz.2.1
    have hg20 := q1
    have hb := bo_acc (F := mX9_hasOldGear_b33 207 (nI (pgi s l i)) r3 (w, nI i) day) (s := s) (n := gsz s (pgi s l i)) (c := fun k => ¬ day ≤ sI s 215 (gj s (pgi s l i) k)) (E := fun b => r3 (b, nI i + 1) s) (fun b r => ?_) (fun k hk r => ?_) (fun k hk hc r => ?_) (fun k hk hc r => ?_) FU 0 (Nat.zero_le _) (show gsz s (pgi s l i) - 0 < 4000 by omega)
    · exact ⟨hb.1, hb.2.iff ⟨fun ⟨k, _, a, b⟩ => ⟨k, a, b⟩, fun ⟨k, a, b⟩ => ⟨k, Nat.zero_le _, a, b⟩⟩⟩
    · unfold mX9_hasOldGear_b33
      rw [mR hM 13 220 rfl (by decide) (by decide), alI_n (show _ < ln 220 from hg20) (by decide) (by omega), hz.2.2.1, if_pos (Int32.le_refl _)]
    · unfold mX9_hasOldGear_b33
      rw [mR hM 13 220 rfl (by decide) (by decide), alI_n (show _ < ln 220 from hg20) (by decide) (by omega), hz.2.2.1]
      dsimp only
      rw [if_neg (nI_ge hk (by omega)), if_pos (by decide)]
    · obtain ⟨e0, e1⟩ := hz.gjm hk
      unfold mX9_hasOldGear_b33
      rw [mR hM 13 220 rfl (by decide) (by decide), alI_n (show _ < ln 220 from hg20) (by decide) (by omega), hz.2.2.1]
      dsimp only
      rw [if_neg (nI_ge hk (by omega)), if_neg (by decide), mR hM 7 215 rfl (by decide) (by decide), mR hM 14 221 rfl (by decide) (by decide), i4, alI_n (show 4 * pgi s l i + k < ln 221 from show _ < 80 by omega) (by decide) (by omega), e1, alI_n (show _ < ln 215 from e0) (by decide) (by omega), if_neg hc]
    · obtain ⟨e0, e1⟩ := hz.gjm hk
      unfold mX9_hasOldGear_b33
      rw [mR hM 13 220 rfl (by decide) (by decide), alI_n (show _ < ln 220 from hg20) (by decide) (by omega), hz.2.2.1]
      dsimp only
      rw [if_neg (nI_ge hk (by omega)), if_neg (by decide), mR hM 7 215 rfl (by decide) (by decide), mR hM 14 221 rfl (by decide) (by decide), i4, alI_n (show 4 * pgi s l i + k < ln 221 from show _ < 80 by omega) (by decide) (by omega), e1, alI_n (show _ < ln 215 from e0) (by decide) (by omega), if_pos (Classical.byContradiction hc)]
  refine (bo_acc (F := mX9_hasOldGear_b5 207 (nI l) day) (s := s) (n := m) (c := fun i => c5g s (pgi s l i) day) (E := fun b => ckB b (some (b, s))) (fun b r => ?_) (fun k hk r => ?_) (fun k hk hc r => ?_) (fun k hk hc r => ?_) FU 0 (Nat.zero_le _) (show m - 0 < 4000 by omega)).2.iff ⟨fun ⟨k, _, a, b⟩ => ⟨k, a, b⟩, fun ⟨k, a, b⟩ => ⟨k, Nat.zero_le _, a, b⟩⟩
  · unfold mX9_hasOldGear_b5
    rw [mR hM 22 228 rfl (by decide) (by decide), alI_n (show l < ln 228 from hl) (by decide) (by omega), z1, if_pos (Int32.le_refl _)]
  all_goals
    obtain ⟨q1, q2⟩ := hp k hk
    unfold mX9_hasOldGear_b5
    rw [mR hM 22 228 rfl (by decide) (by decide), alI_n (show l < ln 228 from hl) (by decide) (by omega), z1]
    dsimp only
    rw [if_neg (nI_ge hk (by omega)), mR hM 23 229 rfl (by decide) (by decide), i6, alI_n (show 6 * l + k < ln 229 from show _ < 72 by omega) (by decide) (by omega), q2]
  · exact (inner k hk r 1).1
  · exact (inner k hk r 0).2.1 hc
  · exact (inner k hk r 0).2.2 hc
/-- how many of the first i groups have jumper j -/
def hcn (p : Nat → Bool) : Nat → Nat
  | 0 => 0
  | i + 1 => if p i = true then hcn p i + 1 else hcn p i
theorem hcn_s (p : Nat → Bool) (i : Nat) : hcn p (i + 1) = if p i = true then hcn p i + 1 else hcn p i := rfl
theorem hcn_0 (p : Nat → Bool) : ∀ i, hcn p i ≤ i ∧ (hcn p i = 0 ↔ ∀ k, k < i → ¬ p k = true)
  | 0 => ⟨Nat.le_refl _, fun _ k hk => absurd hk (Nat.not_lt_zero k), fun _ => rfl⟩
  | i + 1 => by
    obtain ⟨h1, h2⟩ := hcn_0 p i
    rw [hcn_s]
    by_cases h : p i = true
    · rw [if_pos h]
      exact ⟨by omega, fun z => by omega, fun z => absurd h (z i (by omega))⟩
    · rw [if_neg h]
      refine ⟨by omega, fun z k hk => ?_, fun z => h2.2 (fun k hk => z k (by omega))⟩
      by_cases hki : k = i
      · subst hki; exact h
      · exact h2.1 z k (by omega)
theorem hcn_1 (p : Nat → Bool) : ∀ i, (1 < hcn p i ↔ ∃ a b, a < b ∧ b < i ∧ p a = true ∧ p b = true)
  | 0 => ⟨fun z => absurd z (by show ¬ 1 < 0; omega), fun ⟨a, b, _, h, _⟩ => absurd h (Nat.not_lt_zero b)⟩
  | i + 1 => by
    have ih := hcn_1 p i
    obtain ⟨h1, h2⟩ := hcn_0 p i
    rw [hcn_s]
    by_cases h : p i = true
    · rw [if_pos h]
      refine ⟨fun z => ?_, fun ⟨a, b, x1, x2, x3, x4⟩ => ?_⟩
      · have h3 : ¬ hcn p i = 0 := by omega
        rw [h2] at h3
        have ⟨a, h4⟩ := Classical.not_forall.mp h3
        have ⟨h5, h6⟩ := Classical.not_imp.mp h4
        exact ⟨a, i, h5, by omega, Classical.not_not.mp h6, h⟩
      · have : ¬ hcn p i = 0 := fun z => (h2.1 z) a (by omega) x3
        omega
    · rw [if_neg h, ih]
      refine ⟨fun ⟨a, b, x1, x2, x3⟩ => ⟨a, b, x1, by omega, x3⟩, fun ⟨a, b, x1, x2, x3, x4⟩ => ⟨a, b, x1, ?_, x3, x4⟩⟩
      by_cases hbi : b = i
      · subst hbi; exact absurd x4 h
      · omega
noncomputable def hsB (s : Sg) (l j : Nat) (i : Nat) : Bool := (Classical.propDecidable (hsj s (pgi s l i) j)).decide
theorem hsB_iff (s : Sg) (l j i : Nat) : hsB s l j i = true ↔ hsj s (pgi s l i) j := by
  unfold hsB
  exact @decide_eq_true_iff _ (Classical.propDecidable _)
theorem mTwice (hQ : LQm s l m) : BoE (mX9_hasTwice 207 (nI l) s) (fun v => some (v, s)) (cW6 s l m) := by
  obtain ⟨hr, ⟨hl, hm, z1⟩, hp⟩ := hQ
  have hM := hr.1
  have hN := hM.1
  have inner : ∀ j, j < 32 → ∀ (r3 : (Int32 × Int32) → Sg → Option (Int32 × Sg)) (w : Int32), lp (mX9_hasTwice_b16 207 (nI l) (w, nI j) r3) FU (0, 0) s = if ¬ w = 0 then r3 (1, nI j + 1) s else if nI (hcn (hsB s l j) m) ≤ 1 then r3 (0, nI j + 1) s else r3 (1, nI j + 1) s := by
    intro j hj r3 w
    refine lp_run (F := mX9_hasTwice_b16 207 (nI l) (w, nI j) r3) (n := m) (q := fun i => (nI (hcn (hsB s l j) i), nI i)) (S := fun _ => s) (fun r => ?_) (fun i hi r => ?_) FU 0 (Nat.zero_le _) (show m - 0 < 4000 by omega)
    · unfold mX9_hasTwice_b16
      rw [mR hM 22 228 rfl (by decide) (by decide), alI_n (show l < ln 228 from hl) (by decide) (by omega), z1, if_pos (Int32.le_refl _)]
    · obtain ⟨q1, q2⟩ := hp i hi
      have hz := hr.gz q1
      have hb := mHas (j := j) hM q1 hz.2.1 hz.2.2.1
      unfold mX9_hasTwice_b16
      rw [mR hM 22 228 rfl (by decide) (by decide), alI_n (show l < ln 228 from hl) (by decide) (by omega), z1]
      dsimp only
      rw [if_neg (nI_ge hi (by omega)), mR hM 23 229 rfl (by decide) (by decide), i6, alI_n (show 6 * l + i < ln 229 from show _ < 72 by omega) (by decide) (by omega), q2, c9 hN, hcn_s]
      by_cases hc : hsj s (pgi s l i) j
      · rw [hb.1 hc, cl_some, if_neg (by decide), if_pos ((hsB_iff s l j i).2 hc), nI_1, nI_1]
      · rw [hb.2 hc, cl_some, if_pos rfl, if_neg (fun z => hc ((hsB_iff s l j i).1 z)), nI_1, Int32.add_zero]
  have hq : ∀ j, (1 < hcn (hsB s l j) m ↔ ∃ a b, a < b ∧ b < m ∧ hsj s (pgi s l a) j ∧ hsj s (pgi s l b) j) := fun j => by
    rw [hcn_1]
    exact ⟨fun ⟨a, b, x1, x2, x3, x4⟩ => ⟨a, b, x1, x2, (hsB_iff s l j a).1 x3, (hsB_iff s l j b).1 x4⟩, fun ⟨a, b, x1, x2, x3, x4⟩ => ⟨a, b, x1, x2, (hsB_iff s l j a).2 x3, (hsB_iff s l j b).2 x4⟩⟩
  have hle : ∀ j, hcn (hsB s l j) m < 2 ^ 31 := fun j => by
    have := (hcn_0 (hsB s l j) m).1
    omega
  have lt32 : ∀ {k : Nat}, k < 32 → ¬ (32 : Int32) ≤ nI k := fun h => nI_ge (b := 32) h (by decide)
  refine (bo_acc (F := mX9_hasTwice_b4 207 (nI l)) (s := s) (n := 32) (c := fun j => 1 < hcn (hsB s l j) m) (E := fun b => ckB b (some (b, s))) (fun b r => ?_) (fun k hk r => ?_) (fun k hk hc r => ?_) (fun k hk hc r => ?_) FU 0 (Nat.zero_le _) (by decide)).2.iff ⟨fun ⟨j, _, a, b⟩ => ?_, fun ⟨i, hi, j, x1, x2, k, x3, x4⟩ => ?_⟩
  · unfold mX9_hasTwice_b4
    rw [if_pos (show (32 : Int32) ≤ nI 32 by decide)]
  · unfold mX9_hasTwice_b4
    dsimp only
    rw [if_neg (lt32 hk), inner k hk, if_pos (by decide)]
  · unfold mX9_hasTwice_b4
    dsimp only
    rw [if_neg (lt32 hk), inner k hk, if_neg (fun z => z rfl), if_neg (by rw [show (1 : Int32) = nI 1 from rfl]; exact nI_ge hc (hle k))]
  · unfold mX9_hasTwice_b4
    dsimp only
    rw [if_neg (lt32 hk), inner k hk, if_neg (fun z => z rfl), if_pos (by rw [show (1 : Int32) = nI 1 from rfl]; exact nI_le (by omega) (by decide))]
  · obtain ⟨x, y, h1, h2, ⟨k, h3, h3'⟩, h4⟩ := (hq j).1 b
    have e : gj s (pgi s l x) k = j := by
      unfold gj
      rw [h3', nI_clamp (by omega)]
    exact ⟨x, by omega, y, h1, h2, k, h3, by rw [e]; exact h4⟩
  · obtain ⟨q1, q2⟩ := hp i hi
    have hz := hr.gz q1
    obtain ⟨e0, e1⟩ := hz.gjm x3
    exact ⟨gj s (pgi s l i) k, Nat.zero_le _, e0, (hq _).2 ⟨i, j, x1, x2, ⟨k, x3, e1⟩, x4⟩⟩
theorem mSorts (hr : MV s) (hz : GVm s g) : mX9_sortsIn 207 (nI g) so s = some (csum s g so (gsz s g), s) := by
  have hz0 := hz
  obtain ⟨hg, hm, z1, z4⟩ := hz
  have hM := hr.1
  have hN := hM.1
  refine lp_run (F := mX9_sortsIn_b5 207 (nI g) so) (n := gsz s g) (q := fun k => (csum s g so k, nI k)) (S := fun _ => s) (fun r => ?_) (fun k hk r => ?_) FU 0 (Nat.zero_le _) (show gsz s g - 0 < 4000 by omega)
  · unfold mX9_sortsIn_b5
    rw [mR hM 13 220 rfl (by decide) (by decide), alI_n (show g < ln 220 from hg) (by decide) (by omega), z1, if_pos (Int32.le_refl _)]
  · obtain ⟨e0, e1⟩ := hz0.gjm hk
    have ec : csum s g so (k + 1) = if sI s 213 (gj s g k) = so then csum s g so k + 1 else csum s g so k := rfl
    unfold mX9_sortsIn_b5
    rw [mR hM 13 220 rfl (by decide) (by decide), alI_n (show g < ln 220 from hg) (by decide) (by omega), z1]
    dsimp only
    rw [if_neg (nI_ge hk (by omega)), mR hM 5 213 rfl (by decide) (by decide), mR hM 14 221 rfl (by decide) (by decide), i4, alI_n (show 4 * g + k < ln 221 from show _ < 80 by omega) (by decide) (by omega), e1, alI_n (show _ < ln 213 from e0) (by decide) (by omega), nI_1, ec]
    by_cases hc : sI s 213 (gj s g k) = so
    · rw [if_neg (fun z => z hc), if_pos hc]
    · rw [if_pos hc, if_neg hc, Int32.add_zero]
theorem mAlone (hQ : LQm s l m) : BoE (mX9_hasAlone 207 (nI l) s) (fun v => some (v, s)) (cW7 s l m) := by
  obtain ⟨hr, ⟨hl, hm, z1⟩, hp⟩ := hQ
  have hM := hr.1
  have hN := hM.1
  have stp : ∀ k, k < m → ∀ r, mX9_hasAlone_b4 207 (nI l) r (0, nI k) s = if csum s (pgi s l k) 2 (gsz s (pgi s l k)) < csum s (pgi s l k) 1 (gsz s (pgi s l k)) then r (1, nI k + 1) s else if csum s (pgi s l k) 1 (gsz s (pgi s l k)) ≤ 0 then r (0, nI k + 1) s else if sI s 216 (pgi s l k) = 3 then r (0, nI k + 1) s else r (1, nI k + 1) s := by
    intro k hk r
    obtain ⟨q1, q2⟩ := hp k hk
    have hz := hr.gz q1
    have hg20 := q1
    unfold mX9_hasAlone_b4
    rw [mR hM 22 228 rfl (by decide) (by decide), alI_n (show l < ln 228 from hl) (by decide) (by omega), z1]
    dsimp only
    rw [if_neg (nI_ge hk (by omega)), mR hM 23 229 rfl (by decide) (by decide), i6, alI_n (show 6 * l + k < ln 229 from show _ < 72 by omega) (by decide) (by omega), q2, c9 hN, mSorts hr hz, cl_some, if_neg (by decide), c9 hN, mSorts hr hz, cl_some, mR hM 9 216 rfl (by decide) (by decide), alI_n (show _ < ln 216 from hg20) (by decide) (by omega)]
  refine (bo_acc (F := mX9_hasAlone_b4 207 (nI l)) (s := s) (n := m) (c := fun i => c7g s (pgi s l i)) (E := fun b => ckB b (some (b, s))) (fun b r => ?_) (fun k hk r => ?_) (fun k hk hc r => ?_) (fun k hk hc r => ?_) FU 0 (Nat.zero_le _) (show m - 0 < 4000 by omega)).2.iff ⟨fun ⟨k, _, a, b⟩ => ⟨k, a, b⟩, fun ⟨k, a, b⟩ => ⟨k, Nat.zero_le _, a, b⟩⟩
  · unfold mX9_hasAlone_b4
    rw [mR hM 22 228 rfl (by decide) (by decide), alI_n (show l < ln 228 from hl) (by decide) (by omega), z1, if_pos (Int32.le_refl _)]
  · obtain ⟨q1, q2⟩ := hp k hk
    have hz := hr.gz q1
    unfold mX9_hasAlone_b4
    rw [mR hM 22 228 rfl (by decide) (by decide), alI_n (show l < ln 228 from hl) (by decide) (by omega), z1]
    dsimp only
    rw [if_neg (nI_ge hk (by omega)), mR hM 23 229 rfl (by decide) (by decide), i6, alI_n (show 6 * l + k < ln 229 from show _ < 72 by omega) (by decide) (by omega), q2, c9 hN, mSorts hr hz, cl_some, if_pos (by decide)]
  · rw [stp k hk r]
    rcases hc with hc | ⟨h1, h2⟩
    · rw [if_pos hc]
    · by_cases h3 : csum s (pgi s l k) 2 (gsz s (pgi s l k)) < csum s (pgi s l k) 1 (gsz s (pgi s l k))
      · rw [if_pos h3]
      · rw [if_neg h3, if_neg h1, if_neg h2]
  · rw [stp k hk r, if_neg (fun z => hc (Or.inl z))]
    by_cases h1 : csum s (pgi s l k) 1 (gsz s (pgi s l k)) ≤ 0
    · rw [if_pos h1]
    · rw [if_neg h1]
      by_cases h2 : sI s 216 (pgi s l k) = 3
      · rw [if_pos h2]
      · exact absurd (Or.inr ⟨h1, h2⟩) hc
theorem mBlows (hQ : LQm s l m) : BoE (mX9_blowsTooMuch 207 (nI l) s) (fun v => some (v, s)) (cW8 s l m) := by
  obtain ⟨hr, ⟨hl, hm, z1⟩, hp⟩ := hQ
  have hM := hr.1
  have hN := hM.1
  have e1 : mX9_blowsTooMuch 207 (nI l) s = lp (mX9_blowsTooMuch_b33 207 (nI l) (sI s 211 0) (sI s 211 0) (sI s 212 0) (sI s 212 0)) FU (0, 0) s := by
    unfold mX9_blowsTooMuch
    rw [mR hM 3 211 rfl (by decide) (by decide), alI_at (i := 0) (n := 0) rfl (by decide) (by decide) (by omega), mR hM 3 211 rfl (by decide) (by decide), alI_at (i := 0) (n := 0) rfl (by decide) (by decide) (by omega), mR hM 4 212 rfl (by decide) (by decide), alI_at (i := 0) (n := 0) rfl (by decide) (by decide) (by omega), mR hM 4 212 rfl (by decide) (by decide), alI_at (i := 0) (n := 0) rfl (by decide) (by decide) (by omega)]
  have ew : sI s 211 0 * sI s 211 0 + sI s 212 0 * sI s 212 0 = wsq s := rfl
  rw [e1]
  refine (bo_acc (F := mX9_blowsTooMuch_b33 207 (nI l) (sI s 211 0) (sI s 211 0) (sI s 212 0) (sI s 212 0)) (s := s) (n := m) (c := fun i => ¬ wsq s ≤ sI s 226 (2 + kN s (pgi s l i))) (E := fun b => ckB b (some (b, s))) (fun b r => ?_) (fun k hk r => ?_) (fun k hk hc r => ?_) (fun k hk hc r => ?_) FU 0 (Nat.zero_le _) (show m - 0 < 4000 by omega)).2.iff ⟨fun ⟨k, _, a, b⟩ => ⟨k, a, b⟩, fun ⟨k, a, b⟩ => ⟨k, Nat.zero_le _, a, b⟩⟩
  · unfold mX9_blowsTooMuch_b33
    rw [mR hM 22 228 rfl (by decide) (by decide), alI_n (show l < ln 228 from hl) (by decide) (by omega), z1, if_pos (Int32.le_refl _)]
  · unfold mX9_blowsTooMuch_b33
    rw [mR hM 22 228 rfl (by decide) (by decide), alI_n (show l < ln 228 from hl) (by decide) (by omega), z1]
    dsimp only
    rw [if_neg (nI_ge hk (by omega)), if_pos (by decide)]
  all_goals
    obtain ⟨q1, q2⟩ := hp k hk
    obtain ⟨n1, n2⟩ := hr.kn q1
    have hg20 := q1
    unfold mX9_blowsTooMuch_b33
    rw [mR hM 22 228 rfl (by decide) (by decide), alI_n (show l < ln 228 from hl) (by decide) (by omega), z1]
    dsimp only
    rw [if_neg (nI_ge hk (by omega)), if_neg (by decide), mR hM 19 226 rfl (by decide) (by decide), mR hM 9 216 rfl (by decide) (by decide), mR hM 23 229 rfl (by decide) (by decide), i6, alI_n (show 6 * l + k < ln 229 from show _ < 72 by omega) (by decide) (by omega), q2, alI_n (show _ < ln 216 from hg20) (by decide) (by omega), n1, show (2 : Int32) = nI 2 from rfl, nI_add, alI_n (show 2 + kN s (pgi s l k) < ln 226 from show _ < 10 by omega) (by decide) (by omega), ew]
  · rw [if_neg hc]
  · rw [if_pos (Classical.byContradiction hc)]
theorem mRank (hr : MV s) (hg : g < 20) : mX9_rankOf 207 (nI g) s = some (rnk s g, s) := by
  have hM := hr.1
  have hN := hM.1
  obtain ⟨n1, n2⟩ := hr.kn hg
  have hg20 := hg
  unfold mX9_rankOf
  rw [mR hM 19 226 rfl (by decide) (by decide), mR hM 9 216 rfl (by decide) (by decide), alI_n (show g < ln 216 from hg20) (by decide) (by omega), n1, show (6 : Int32) = nI 6 from rfl, nI_add, alI_n (show 6 + kN s g < ln 226 from show _ < 10 by omega) (by decide) (by omega)]
  rfl
theorem mRanks (hQ : LQm s l m) : BoE (mX9_areRanksWrong 207 (nI l) s) (fun v => some (v, s)) (cW9 s l m) := by
  obtain ⟨hr, ⟨hl, hm, z1⟩, hp⟩ := hQ
  have hM := hr.1
  have hN := hM.1
  rcases Nat.eq_zero_or_pos m with h0 | h0
  · subst h0
    refine ⟨fun ⟨i, hi, _⟩ => absurd hi (Nat.not_lt_zero i), fun _ => ?_⟩
    show mX9_areRanksWrong_b4 207 (nI l) (lp (mX9_areRanksWrong_b4 207 (nI l)) 3999) (0, 1) s = _
    unfold mX9_areRanksWrong_b4
    rw [mR hM 22 228 rfl (by decide) (by decide), alI_n (show l < ln 228 from hl) (by decide) (by omega), z1]
    dsimp only
    rw [if_pos (by decide)]
    rfl
  obtain ⟨m, rfl⟩ : ∃ k, m = k + 1 := ⟨m - 1, by omega⟩
  have stp : ∀ k, k < m → ∀ r, mX9_areRanksWrong_b4 207 (nI l) r (0, nI (k + 1)) s = if rnk s (pgi s l k) ≤ rnk s (pgi s l (k + 1)) then r (0, nI (k + 1) + 1) s else r (1, nI (k + 1) + 1) s := by
    intro k hk r
    obtain ⟨q1, q2⟩ := hp (k + 1) (by omega)
    obtain ⟨p1, p2⟩ := hp k (by omega)
    unfold mX9_areRanksWrong_b4
    rw [mR hM 22 228 rfl (by decide) (by decide), alI_n (show l < ln 228 from hl) (by decide) (by omega), z1]
    dsimp only
    rw [if_neg (nI_ge (by omega) (by omega)), if_neg (by decide), mR hM 23 229 rfl (by decide) (by decide), i6, show 6 * l + (k + 1) = (6 * l + k) + 1 by omega, nI_pred, alI_n (show 6 * l + k < ln 229 from show _ < 72 by omega) (by decide) (by omega), p2, c9 hN, mRank hr p1, cl_some, mR hM 23 229 rfl (by decide) (by decide), alI_n (show (6 * l + k) + 1 < ln 229 from show _ < 72 by omega) (by decide) (by omega), show (6 * l + k) + 1 = 6 * l + (k + 1) by omega, q2, c9 hN, mRank hr q1, cl_some]
  have one : ∀ k, k < m → ∀ r, mX9_areRanksWrong_b4 207 (nI l) r (1, nI (k + 1)) s = r (1, nI (k + 1) + 1) s := by
    intro k hk r
    unfold mX9_areRanksWrong_b4
    rw [mR hM 22 228 rfl (by decide) (by decide), alI_n (show l < ln 228 from hl) (by decide) (by omega), z1]
    dsimp only
    rw [if_neg (nI_ge (by omega) (by omega)), if_pos (by decide)]
  have fin : ∀ v r, mX9_areRanksWrong_b4 207 (nI l) r (v, nI (m + 1)) s = ckB v (some (v, s)) := by
    intro v r
    unfold mX9_areRanksWrong_b4
    rw [mR hM 22 228 rfl (by decide) (by decide), alI_n (show l < ln 228 from hl) (by decide) (by omega), z1, if_pos (Int32.le_refl _)]
  have go1 : ∀ (d f k : Nat), m = k + d → d < f → lp (mX9_areRanksWrong_b4 207 (nI l)) f (1, nI (k + 1)) s = some (1, s) := by
    intro d
    induction d with
    | zero =>
      intro f k hk hf
      obtain ⟨f, rfl⟩ : ∃ g, f = g + 1 := ⟨f - 1, by omega⟩
      have hkm : k = m := by omega
      subst hkm
      exact fin 1 _
    | succ d ih =>
      intro f k hk hf
      obtain ⟨f, rfl⟩ : ∃ g, f = g + 1 := ⟨f - 1, by omega⟩
      show mX9_areRanksWrong_b4 207 (nI l) (lp (mX9_areRanksWrong_b4 207 (nI l)) f) (1, nI (k + 1)) s = _
      rw [one k (by omega), nI_1]
      exact ih f (k + 1) (by omega) (by omega)
  suffices hgo : ∀ (d f k : Nat), m = k + d → d < f → BoE (lp (mX9_areRanksWrong_b4 207 (nI l)) f (0, nI (k + 1)) s) (fun v => some (v, s)) (∃ i, i < m + 1 ∧ k + 1 ≤ i ∧ ¬ rnk s (pgi s l (i - 1)) ≤ rnk s (pgi s l i)) from hgo m FU 0 (by omega) (show m < 4000 by omega)
  intro d
  induction d with
  | zero =>
    intro f k hk hf
    obtain ⟨f, rfl⟩ : ∃ g, f = g + 1 := ⟨f - 1, by omega⟩
    have hkm : k = m := by omega
    subst hkm
    exact ⟨fun ⟨i, a, b, c⟩ => absurd a (by omega), fun _ => fin 0 _⟩
  | succ d ih =>
    intro f k hk hf
    obtain ⟨f, rfl⟩ : ∃ g, f = g + 1 := ⟨f - 1, by omega⟩
    have h9 := ih f (k + 1) (by omega) (by omega)
    show BoE (mX9_areRanksWrong_b4 207 (nI l) (lp (mX9_areRanksWrong_b4 207 (nI l)) f) (0, nI (k + 1)) s) _ _
    rw [stp k (by omega), nI_1]
    by_cases hc : rnk s (pgi s l k) ≤ rnk s (pgi s l (k + 1))
    · rw [if_pos hc]
      refine h9.iff ⟨fun ⟨i, a, b, c⟩ => ⟨i, a, by omega, c⟩, fun ⟨i, a, b, c⟩ => ⟨i, a, ?_, c⟩⟩
      by_cases hik : i = k + 1
      · subst hik
        rw [Nat.add_sub_cancel] at c
        exact absurd hc c
      · omega
    · rw [if_neg hc, go1 d f (k + 1) (by omega) (by omega)]
      refine ⟨fun _ => rfl, fun z => absurd ⟨k + 1, by omega, Nat.le_refl _, ?_⟩ z⟩
      rw [Nat.add_sub_cancel]
      exact hc
end MWY
