/-! WHY: what bars a load, but for the ways -/
def LQ (s : Sg) (l m : Nat) : Prop := Rel s ∧ LV s l m ∧ ∀ i, i < m → GN s (pgi s l i) ∧ sI s 229 (6 * l + i) = nI (pgi s l i) ∧ sR s (100 + 7 * l) i = some (56 + 2 * pgi s l i)
def gsz (s : Sg) (g : Nat) : Nat := (sI s 220 g).toNatClampNeg
def gj (s : Sg) (g k : Nat) : Nat := (sI s 221 (4 * g + k)).toNatClampNeg
def kN (s : Sg) (g : Nat) : Nat := (sI s 216 g).toNatClampNeg
def rnk (s : Sg) (g : Nat) : Int32 := sI s 226 (6 + kN s g)
theorem gi_scr {s s1 : Sg} (hS : Scr s s1) (l i : Nat) : pgi s1 l i = pgi s l i := by
  unfold pgi
  rw [hS.eq (a := 229) (by omega)]
theorem LQ.scr {s s1 : Sg} {l m : Nat} (h : LQ s l m) (hS : Scr s s1) : LQ s1 l m := by
  refine ⟨h.1.scr hS, h.2.1.scr hS, fun i hi => ?_⟩
  have h3 := h.2.2 i hi
  unfold GN at h3 ⊢
  rw [gi_scr hS, hS.eq (a := 229) (by omega), hS.2.1, hS.e7 (by decide)]
  exact h3
theorem Rel.kn {s : Sg} (hr : Rel s) {g : Nat} (hg : GN s g) : sI s 216 g = nI (kN s g) ∧ kN s g < 4 ∧ sI s (56 + 2 * g) 3 = nI (kN s g) := by
  obtain ⟨g1, g2, g3, g4, g5, g6, g7, g8, g9, g10, -⟩ := hr.gi hg
  obtain ⟨k, hk, e⟩ := btw_nI 4 g10 (by decide)
  have h : kN s g = k := by
    unfold kN
    rw [e, nI_clamp (by omega)]
  rw [h]
  exact ⟨e, hk, g2.trans e⟩
theorem Rel.ru {s : Sg} (hr : Rel s) {k : Nat} (hk : k < 10) : sI s 9 k = sI s 226 k := by
  obtain ⟨r0, r1, r2, r3, r4, r5, r6, r7, r8⟩ := hr
  exact (r6 k hk).1
theorem Rel.gz {s : Sg} (hr : Rel s) {g : Nat} (hg : g < 20) : GV s g (gsz s g) := by
  obtain ⟨r0, r1, r2, r3, r4, r5, r6, r7, r8⟩ := hr
  obtain ⟨m, h⟩ := r4.gv r0 hg
  have e : gsz s g = m := by
    unfold gsz
    rw [h.2.2.1, nI_clamp (by have := h.2.1; omega)]
  rw [e]
  exact h
theorem GV.gjm {s : Sg} {g m k : Nat} (h : GV s g m) (hk : k < m) : gj s g k < 32 ∧ sI s 221 (4 * g + k) = nI (gj s g k) ∧ sR s (57 + 2 * g) k = some (24 + gj s g k) := by
  obtain ⟨j, h1, h2, h3⟩ := h.2.2.2.2.2.2 k hk
  have e : gj s g k = j := by
    unfold gj
    rw [h2, nI_clamp (by omega)]
  rw [e]
  exact ⟨h1, h2, h3⟩
def cE (s : Sg) (l m : Nat) : Prop := m = 0 ∨ ∃ i, i < m ∧ sI s 220 (pgi s l i) = 0
def lws (s : Sg) (l : Nat) : Nat → Int32
  | 0 => 0
  | i + 1 => lws s l i + wsum s (pgi s l i) (gsz s (pgi s l i))
def c5g (s : Sg) (g : Nat) (day : Int32) : Prop := ∃ k, k < gsz s g ∧ ¬ day ≤ sI s 215 (gj s g k)
def cW5 (s : Sg) (l m : Nat) (day : Int32) : Prop := ∃ i, i < m ∧ c5g s (pgi s l i) day
def hsj (s : Sg) (g j : Nat) : Prop := ∃ k, k < gsz s g ∧ sI s 221 (4 * g + k) = nI j
def c6g (s : Sg) (g h : Nat) : Prop := ∃ k, k < gsz s g ∧ hsj s h (gj s g k)
def cW6 (s : Sg) (l m : Nat) : Prop := ∃ i, i < m ∧ ∃ j, i < j ∧ j < m ∧ c6g s (pgi s l i) (pgi s l j)
def csum (s : Sg) (g : Nat) (so : Int32) : Nat → Int32
  | 0 => 0
  | k + 1 => if sI s 213 (gj s g k) = so then csum s g so k + 1 else csum s g so k
def c7g (s : Sg) (g : Nat) : Prop := csum s g 2 (gsz s g) < csum s g 1 (gsz s g) ∨ (¬ csum s g 1 (gsz s g) ≤ 0 ∧ ¬ sI s 216 g = 3)
def cW7 (s : Sg) (l m : Nat) : Prop := ∃ i, i < m ∧ c7g s (pgi s l i)
def wsq (s : Sg) : Int32 := sI s 211 0 * sI s 211 0 + sI s 212 0 * sI s 212 0
def cW8 (s : Sg) (l m : Nat) : Prop := ∃ i, i < m ∧ ¬ wsq s ≤ sI s 226 (2 + kN s (pgi s l i))
def cW9 (s : Sg) (l m : Nat) : Prop := ∃ i, i < m ∧ 1 ≤ i ∧ ¬ rnk s (pgi s l (i - 1)) ≤ rnk s (pgi s l i)
theorem LV.last {s : Sg} {l m : Nat} (h : LV s l m) : sI s (99 + 7 * l) 6 = nI m := h.2.2.2.1
section CW
variable {s : Sg} {l m g h : Nat} {day so : Int32}
/-! the class -/
theorem cEmpty (hQ : LQ s l m) : BoE (mX5_lacksJumpers (99 + 7 * l) s) (fun v => some (v, s)) (cE s l m) := by
  obtain ⟨hr, hv, hp⟩ := hQ
  obtain ⟨hl, hm, z1, z2, z3, z9, ⟨hN, hM⟩, z4⟩ := id hv
  obtain ⟨k1, k2, k3, k4, k5, -⟩ := kdLo l hl
  rcases Nat.eq_zero_or_pos m with h0 | h0
  · subst h0
    refine ⟨fun _ => ?_, fun z => absurd (Or.inl rfl) z⟩
    show mX5_lacksJumpers_b2 (99 + 7 * l) (lp (mX5_lacksJumpers_b2 (99 + 7 * l)) 3999) 0 s = _
    unfold mX5_lacksJumpers_b2
    rw [gdI_at k1 (by omega), z2, if_pos (by decide), gdI_at k1 (by omega), z2, if_neg (by decide)]
    rfl
  refine (bo_any (F := mX5_lacksJumpers_b2 (99 + 7 * l)) (s := s) (n := m) (c := fun i => sI s 220 (pgi s l i) = 0) (E := fun v => some (v, s)) (fun r => ?_) (fun k hk hc r => ?_) (fun k hk hc r => ?_) FU 0 (Nat.zero_le _) (show m - 0 < 4000 by omega)).iff ⟨fun ⟨k, _, a, b⟩ => Or.inr ⟨k, a, b⟩, fun z => ?_⟩
  · unfold mX5_lacksJumpers_b2
    rw [gdI_at k1 (by omega), z2, if_pos (Int32.le_refl _), gdI_at k1 (by omega), z2, if_pos (nI_ne0 h0 (by omega))]
    rfl
  · obtain ⟨q1, q2, q3⟩ := hp k hk
    have hz := hr.gz q1.1
    unfold mX5_lacksJumpers_b2
    rw [gdI_at k1 (by omega), z2, if_neg (nI_ge hk (by omega)), gdR_at k1 (by omega), z3, alR_n (by omega) k2 (by omega), q3, gdI_at (kdGr _ q1.1).1 (by have := q1.1; omega), hz.2.2.2.1, ← hz.2.2.1, hc, if_neg (fun z => z rfl)]
    rfl
  · obtain ⟨q1, q2, q3⟩ := hp k hk
    have hz := hr.gz q1.1
    unfold mX5_lacksJumpers_b2
    rw [gdI_at k1 (by omega), z2, if_neg (nI_ge hk (by omega)), gdR_at k1 (by omega), z3, alR_n (by omega) k2 (by omega), q3, gdI_at (kdGr _ q1.1).1 (by have := q1.1; omega), hz.2.2.2.1, ← hz.2.2.1, if_pos hc]
  · rcases z with z | ⟨k, a, b⟩
    · omega
    · exact ⟨k, Nat.zero_le _, a, b⟩
theorem cWeight (hQ : LQ s l m) : mX5_weight (99 + 7 * l) s = some (lws s l m, s) := by
  obtain ⟨hr, hv, hp⟩ := hQ
  obtain ⟨hl, hm, z1, z2, z3, z9, ⟨hN, hM⟩, z4⟩ := id hv
  obtain ⟨k1, k2, k3, k4, k5, -⟩ := kdLo l hl
  refine lp_run (F := mX5_weight_b4 (99 + 7 * l)) (n := m) (q := fun k => (lws s l k, nI k)) (S := fun _ => s) (fun r => ?_) (fun k hk r => ?_) FU 0 (Nat.zero_le _) (show m - 0 < 4000 by omega)
  · unfold mX5_weight_b4
    rw [gdI_at k1 (by omega), z2, if_pos (Int32.le_refl _)]
  · obtain ⟨q1, q2, q3⟩ := hp k hk
    have hz := hr.gz q1.1
    have r3 : R3 s := hr.2.2.2.1
    unfold mX5_weight_b4
    rw [gdI_at k1 (by omega), z2]
    dsimp only
    rw [if_neg (nI_ge hk (by omega)), gdR_at k1 (by omega), z3, alR_n (by omega) k2 (by omega), q3, cv_at (kdGr _ q1.1).1 (by have := q1.1; omega), hz.weight r3, cl_some, nI_1]
    rfl
theorem cWorn1 (hr : Rel s) (hz : GV s g (gsz s g)) : BoE (mX2_isWornOn (56 + 2 * g) day s) (fun v => some (v, s)) (c5g s g day) := by
  have r3 : R3 s := hr.2.2.2.1
  have hz0 := hz
  obtain ⟨hg, hm, z1, z2, z3, ⟨hN, -⟩, z4⟩ := hz
  obtain ⟨k1, k2, k3⟩ := kdGr g hg
  refine (bo_any (F := mX2_isWornOn_b2 (56 + 2 * g) day) (s := s) (n := gsz s g) (c := fun k => ¬ day ≤ sI s 215 (gj s g k)) (E := fun v => some (v, s)) (fun r => ?_) (fun k hk hc r => ?_) (fun k hk hc r => ?_) FU 0 (Nat.zero_le _) (show gsz s g - 0 < 4000 by omega)).iff ⟨fun ⟨k, _, a, b⟩ => ⟨k, a, b⟩, fun ⟨k, a, b⟩ => ⟨k, Nat.zero_le _, a, b⟩⟩
  · unfold mX2_isWornOn_b2
    rw [gdI_at k1 (by omega), z2, if_pos (Int32.le_refl _)]
    rfl
  · obtain ⟨e0, e1, e2⟩ := hz0.gjm hk
    unfold mX2_isWornOn_b2
    rw [gdI_at k1 (by omega), z2, if_neg (nI_ge hk (by omega)), gdR_at k1 (by omega), z3, alR_n (by omega) k2 (by omega), e2, gdI_at (kdJu _ e0) (by omega), (r3 _ e0).2.2.1, if_neg hc]
    rfl
  · obtain ⟨e0, e1, e2⟩ := hz0.gjm hk
    unfold mX2_isWornOn_b2
    rw [gdI_at k1 (by omega), z2, if_neg (nI_ge hk (by omega)), gdR_at k1 (by omega), z3, alR_n (by omega) k2 (by omega), e2, gdI_at (kdJu _ e0) (by omega), (r3 _ e0).2.2.1, if_pos (Classical.byContradiction hc)]
theorem cWorn (hQ : LQ s l m) : BoE (mX5_isWornOn (99 + 7 * l) day s) (fun v => some (v, s)) (cW5 s l m day) := by
  obtain ⟨hr, hv, hp⟩ := hQ
  obtain ⟨hl, hm, z1, z2, z3, z9, ⟨hN, hM⟩, z4⟩ := id hv
  obtain ⟨k1, k2, k3, k4, k5, -⟩ := kdLo l hl
  refine (bo_any (F := mX5_isWornOn_b2 (99 + 7 * l) day) (s := s) (n := m) (c := fun i => c5g s (pgi s l i) day) (E := fun v => some (v, s)) (fun r => ?_) (fun k hk hc r => ?_) (fun k hk hc r => ?_) FU 0 (Nat.zero_le _) (show m - 0 < 4000 by omega)).iff ⟨fun ⟨k, _, a, b⟩ => ⟨k, a, b⟩, fun ⟨k, a, b⟩ => ⟨k, Nat.zero_le _, a, b⟩⟩
  · unfold mX5_isWornOn_b2
    rw [gdI_at k1 (by omega), z2, if_pos (Int32.le_refl _)]
    rfl
  · obtain ⟨q1, q2, q3⟩ := hp k hk
    unfold mX5_isWornOn_b2
    rw [gdI_at k1 (by omega), z2, if_neg (nI_ge hk (by omega)), gdR_at k1 (by omega), z3, alR_n (by omega) k2 (by omega), q3, cv_at (kdGr _ q1.1).1 (by have := q1.1; omega), (cWorn1 hr (hr.gz q1.1)).1 hc, cl_some, if_neg (by decide)]
    rfl
  · obtain ⟨q1, q2, q3⟩ := hp k hk
    unfold mX5_isWornOn_b2
    rw [gdI_at k1 (by omega), z2, if_neg (nI_ge hk (by omega)), gdR_at k1 (by omega), z3, alR_n (by omega) k2 (by omega), q3, cv_at (kdGr _ q1.1).1 (by have := q1.1; omega), (cWorn1 hr (hr.gz q1.1)).2 hc, cl_some, if_pos rfl]
theorem cShare1 (hz : GV s g (gsz s g)) (hz2 : GV s h (gsz s h)) : BoE (mX2_sharesOneWith (56 + 2 * g) (some (56 + 2 * h)) s) (fun v => some (v, s)) (c6g s g h) := by
  have hz0 := hz
  obtain ⟨hg, hm, z1, z2, z3, ⟨hN, -⟩, z4⟩ := hz
  obtain ⟨k1, k2, k3⟩ := kdGr g hg
  have hh := hz2.1
  refine (bo_any (F := mX2_sharesOneWith_b2 (56 + 2 * g) (some (56 + 2 * h))) (s := s) (n := gsz s g) (c := fun k => hsj s h (gj s g k)) (E := fun v => some (v, s)) (fun r => ?_) (fun k hk hc r => ?_) (fun k hk hc r => ?_) FU 0 (Nat.zero_le _) (show gsz s g - 0 < 4000 by omega)).iff ⟨fun ⟨k, _, a, b⟩ => ⟨k, a, b⟩, fun ⟨k, a, b⟩ => ⟨k, Nat.zero_le _, a, b⟩⟩
  · unfold mX2_sharesOneWith_b2
    rw [gdI_at k1 (by omega), z2, if_pos (Int32.le_refl _)]
    rfl
  · obtain ⟨e0, e1, e2⟩ := hz0.gjm hk
    unfold mX2_sharesOneWith_b2
    rw [gdI_at k1 (by omega), z2, if_neg (nI_ge hk (by omega)), gdR_at k1 (by omega), z3, alR_n (by omega) k2 (by omega), e2, cv_at (kdGr h hh).1 (by omega), (hz2.holds e0).1 hc, cl_some, if_neg (by decide)]
    rfl
  · obtain ⟨e0, e1, e2⟩ := hz0.gjm hk
    unfold mX2_sharesOneWith_b2
    rw [gdI_at k1 (by omega), z2, if_neg (nI_ge hk (by omega)), gdR_at k1 (by omega), z3, alR_n (by omega) k2 (by omega), e2, cv_at (kdGr h hh).1 (by omega), (hz2.holds e0).2 hc, cl_some, if_pos rfl]
theorem cTwice (hQ : LQ s l m) : BoE (mX5_holdsOneTwice (99 + 7 * l) s) (fun v => some (v, s)) (cW6 s l m) := by
  obtain ⟨hr, hv, hp⟩ := hQ
  obtain ⟨hl, hm, z1, z2, z3, z9, ⟨hN, hM⟩, z4⟩ := id hv
  obtain ⟨k1, k2, k3, k4, k5, -⟩ := kdLo l hl
  have inner : ∀ i, i < m → ∀ (r3 : Int32 → Sg → Option (Int32 × Sg)), ((∃ j, i < j ∧ j < m ∧ c6g s (pgi s l i) (pgi s l j)) → lp (mX5_holdsOneTwice_b14 (99 + 7 * l) r3 (nI i)) FU (nI i + 1) s = some (1, s)) ∧ (¬ (∃ j, i < j ∧ j < m ∧ c6g s (pgi s l i) (pgi s l j)) → lp (mX5_holdsOneTwice_b14 (99 + 7 * l) r3 (nI i)) FU (nI i + 1) s = r3 (nI i + 1) s) := by
    intro i hi r3
    obtain ⟨p1, p2, p3⟩ := hp i hi
    have hb := bo_any (F := mX5_holdsOneTwice_b14 (99 + 7 * l) r3 (nI i)) (s := s) (n := m) (c := fun j => c6g s (pgi s l i) (pgi s l j)) (E := fun v => if v = 0 then r3 (nI i + 1) s else some (1, s)) (fun r => ?_) (fun k hk hc r => ?_) (fun k hk hc r => ?_) FU (i + 1) (by omega) (show m - (i + 1) < 4000 by omega)
    · rw [nI_1 i]
      refine ⟨fun ⟨j, a, b, c⟩ => ?_, fun z => ?_⟩
      · have := hb.1 ⟨j, a, b, c⟩
        dsimp only at this
        rw [if_neg (by decide)] at this
        exact this
      · have := hb.2 (fun ⟨j, a, b, c⟩ => z ⟨j, a, b, c⟩)
        dsimp only at this
        rw [if_pos rfl, nI_1] at this
        exact this
    · unfold mX5_holdsOneTwice_b14
      rw [gdI_at k1 (by omega), z2, if_pos (Int32.le_refl _), if_pos rfl]
    · obtain ⟨q1, q2, q3⟩ := hp k hk
      unfold mX5_holdsOneTwice_b14
      rw [gdI_at k1 (by omega), z2, if_neg (nI_ge hk (by omega)), gdR_at k1 (by omega), z3, alR_n (show i < ln _ by omega) k2 (by omega), p3, gdR_at k1 (by omega), z3, alR_n (by omega) k2 (by omega), q3, cv_at (kdGr _ p1.1).1 (by have := p1.1; omega), (cShare1 (hr.gz p1.1) (hr.gz q1.1)).1 hc, cl_some, if_neg (by decide), if_neg (by decide)]
      rfl
    · obtain ⟨q1, q2, q3⟩ := hp k hk
      unfold mX5_holdsOneTwice_b14
      rw [gdI_at k1 (by omega), z2, if_neg (nI_ge hk (by omega)), gdR_at k1 (by omega), z3, alR_n (show i < ln _ by omega) k2 (by omega), p3, gdR_at k1 (by omega), z3, alR_n (by omega) k2 (by omega), q3, cv_at (kdGr _ p1.1).1 (by have := p1.1; omega), (cShare1 (hr.gz p1.1) (hr.gz q1.1)).2 hc, cl_some, if_pos rfl]
  refine (bo_any (F := mX5_holdsOneTwice_b2 (99 + 7 * l)) (s := s) (n := m) (c := fun i => ∃ j, i < j ∧ j < m ∧ c6g s (pgi s l i) (pgi s l j)) (E := fun v => some (v, s)) (fun r => ?_) (fun k hk hc r => ?_) (fun k hk hc r => ?_) FU 0 (Nat.zero_le _) (show m - 0 < 4000 by omega)).iff ⟨fun ⟨k, _, a, b⟩ => ⟨k, a, b⟩, fun ⟨k, a, b⟩ => ⟨k, Nat.zero_le _, a, b⟩⟩
  · unfold mX5_holdsOneTwice_b2
    rw [gdI_at k1 (by omega), z2, if_pos (Int32.le_refl _)]
    rfl
  · unfold mX5_holdsOneTwice_b2
    rw [gdI_at k1 (by omega), z2, if_neg (nI_ge hk (by omega))]
    exact (inner k hk r).1 hc
  · unfold mX5_holdsOneTwice_b2
    rw [gdI_at k1 (by omega), z2, if_neg (nI_ge hk (by omega))]
    exact (inner k hk r).2 hc
theorem cCount (hr : Rel s) (hz : GV s g (gsz s g)) : mX2_countOf (56 + 2 * g) so s = some (csum s g so (gsz s g), s) := by
  have r3 : R3 s := hr.2.2.2.1
  have hz0 := hz
  obtain ⟨hg, hm, z1, z2, z3, ⟨hN, -⟩, z4⟩ := hz
  obtain ⟨k1, k2, k3⟩ := kdGr g hg
  refine lp_run (F := mX2_countOf_b4 (56 + 2 * g) so) (n := gsz s g) (q := fun k => (csum s g so k, nI k)) (S := fun _ => s) (fun r => ?_) (fun k hk r => ?_) FU 0 (Nat.zero_le _) (show gsz s g - 0 < 4000 by omega)
  · unfold mX2_countOf_b4
    rw [gdI_at k1 (by omega), z2, if_pos (Int32.le_refl _)]
  · obtain ⟨e0, e1, e2⟩ := hz0.gjm hk
    have ec : csum s g so (k + 1) = if sI s 213 (gj s g k) = so then csum s g so k + 1 else csum s g so k := rfl
    unfold mX2_countOf_b4
    rw [gdI_at k1 (by omega), z2]
    dsimp only
    rw [if_neg (nI_ge hk (by omega)), gdR_at k1 (by omega), z3, alR_n (by omega) k2 (by omega), e2, gdI_at (kdJu _ e0) (by omega), (r3 _ e0).1, nI_1, ec]
    by_cases hc : sI s 213 (gj s g k) = so
    · rw [if_neg (fun z => z hc), if_pos hc]
    · rw [if_pos hc, if_neg hc]
theorem cLacks1 (hr : Rel s) (hg : GN s g) : BoE (mX2_lacksHelp (56 + 2 * g) s) (fun v => some (v, s)) (c7g s g) := by
  have hz := hr.gz hg.1
  have hN := hr.1.1
  have hg20 := hg.1
  obtain ⟨k1, k2, k3⟩ := kdGr g hg20
  have e : mX2_lacksHelp (56 + 2 * g) s = (if csum s g 2 (gsz s g) < csum s g 1 (gsz s g) then some (1, s) else if csum s g 1 (gsz s g) ≤ 0 then some (0, s) else if sI s 216 g = 3 then some (0, s) else some (1, s)) := by
    unfold mX2_lacksHelp
    rw [cv_at k1 (by omega), cCount hr hz, cl_some, cv_at k1 (by omega), cCount hr hz, cl_some, gdI_at k1 (by omega), (hr.kn hg).2.2, ← (hr.kn hg).1]
    rfl
  rw [e]
  unfold c7g
  by_cases h1 : csum s g 2 (gsz s g) < csum s g 1 (gsz s g)
  · rw [if_pos h1]
    exact ⟨fun _ => rfl, fun z => absurd (Or.inl h1) z⟩
  · rw [if_neg h1]
    by_cases h2 : csum s g 1 (gsz s g) ≤ 0
    · rw [if_pos h2]
      exact ⟨fun z => by rcases z with z | z; exact absurd z h1; exact absurd h2 z.1, fun _ => rfl⟩
    · rw [if_neg h2]
      by_cases h3 : sI s 216 g = 3
      · rw [if_pos h3]
        exact ⟨fun z => by rcases z with z | z; exact absurd z h1; exact absurd h3 z.2, fun _ => rfl⟩
      · rw [if_neg h3]
        exact ⟨fun _ => rfl, fun z => absurd (Or.inr ⟨h2, h3⟩) z⟩
theorem cLacks (hQ : LQ s l m) : BoE (mX5_lacksHelp (99 + 7 * l) s) (fun v => some (v, s)) (cW7 s l m) := by
  obtain ⟨hr, hv, hp⟩ := hQ
  obtain ⟨hl, hm, z1, z2, z3, z9, ⟨hN, hM⟩, z4⟩ := id hv
  obtain ⟨k1, k2, k3, k4, k5, -⟩ := kdLo l hl
  refine (bo_any (F := mX5_lacksHelp_b2 (99 + 7 * l)) (s := s) (n := m) (c := fun i => c7g s (pgi s l i)) (E := fun v => some (v, s)) (fun r => ?_) (fun k hk hc r => ?_) (fun k hk hc r => ?_) FU 0 (Nat.zero_le _) (show m - 0 < 4000 by omega)).iff ⟨fun ⟨k, _, a, b⟩ => ⟨k, a, b⟩, fun ⟨k, a, b⟩ => ⟨k, Nat.zero_le _, a, b⟩⟩
  · unfold mX5_lacksHelp_b2
    rw [gdI_at k1 (by omega), z2, if_pos (Int32.le_refl _)]
    rfl
  · obtain ⟨q1, q2, q3⟩ := hp k hk
    unfold mX5_lacksHelp_b2
    rw [gdI_at k1 (by omega), z2, if_neg (nI_ge hk (by omega)), gdR_at k1 (by omega), z3, alR_n (by omega) k2 (by omega), q3, cv_at (kdGr _ q1.1).1 (by have := q1.1; omega), (cLacks1 hr q1).1 hc, cl_some, if_neg (by decide)]
    rfl
  · obtain ⟨q1, q2, q3⟩ := hp k hk
    unfold mX5_lacksHelp_b2
    rw [gdI_at k1 (by omega), z2, if_neg (nI_ge hk (by omega)), gdR_at k1 (by omega), z3, alR_n (by omega) k2 (by omega), q3, cv_at (kdGr _ q1.1).1 (by have := q1.1; omega), (cLacks1 hr q1).2 hc, cl_some, if_pos rfl]
/-- over the desk's own air -/
theorem cWindy (hQ : LQ s l m) (hA : sR s (99 + 7 * l) 5 = some 2) : BoE (mX8_isTooWindy 0 (some (99 + 7 * l)) s) (fun v => some (v, s)) (cW8 s l m) := by
  obtain ⟨hr, hv, hp⟩ := hQ
  obtain ⟨hl, hm, z1, z2, z3, z9, ⟨hN, hM⟩, z4⟩ := id hv
  obtain ⟨k1, k2, k3, k4, k5, -⟩ := kdLo l hl
  have r2 : R2 s := hr.2.2.1
  have q := hr.1
  obtain ⟨h0, y0, y1, y2, y3, y4, y5, y6, y7, y8, y9, y10, -⟩ := q
  have hsq : mX0_squareOnGround 2 s = some (wsq s, s) := by
    unfold mX0_squareOnGround wsq
    rw [gdR_at (by decide) (by omega), y9, alI_at (i := 0) (n := 0) rfl (by decide) (by decide) (by omega), gdR_at (by decide) (by omega), y9, alI_at (i := 0) (n := 0) rfl (by decide) (by decide) (by omega), gdR_at (by decide) (by omega), y10, alI_at (i := 0) (n := 0) rfl (by decide) (by decide) (by omega), gdR_at (by decide) (by omega), y10, alI_at (i := 0) (n := 0) rfl (by decide) (by decide) (by omega), (r2 0 (by decide)).1, (r2 0 (by decide)).2.1]
  have e1 : mX8_isTooWindy 0 (some (99 + 7 * l)) s = lp (mX8_isTooWindy_b10 (some (99 + 7 * l)) 0 (wsq s)) FU 0 s := by
    unfold mX8_isTooWindy
    rw [gdR_at k1 (by omega), hA, cv_at (by decide) (by omega), hsq, cl_some]
  rw [e1]
  refine (bo_any (F := mX8_isTooWindy_b10 (some (99 + 7 * l)) 0 (wsq s)) (s := s) (n := m) (c := fun i => ¬ wsq s ≤ sI s 226 (2 + kN s (pgi s l i))) (E := fun v => some (v, s)) (fun r => ?_) (fun k hk hc r => ?_) (fun k hk hc r => ?_) FU 0 (Nat.zero_le _) (show m - 0 < 4000 by omega)).iff ⟨fun ⟨k, _, a, b⟩ => ⟨k, a, b⟩, fun ⟨k, a, b⟩ => ⟨k, Nat.zero_le _, a, b⟩⟩
  · unfold mX8_isTooWindy_b10
    rw [gdI_at k1 (by omega), z2, if_pos (Int32.le_refl _)]
    rfl
  · obtain ⟨q1, q2, q3⟩ := hp k hk
    obtain ⟨n1, n2, n3⟩ := hr.kn q1
    unfold mX8_isTooWindy_b10
    rw [gdI_at k1 (by omega), z2, if_neg (nI_ge hk (by omega)), dR hN, y6, gdR_at k1 (by omega), z3, alR_n (by omega) k2 (by omega), q3, gdI_at (kdGr _ q1.1).1 (by have := q1.1; omega), n3, show (2 : Int32) = nI 2 from rfl, nI_add, alI_n (show 2 + kN s (pgi s l k) < ln 9 from show _ < 10 by omega) (by decide) (by omega), hr.ru (by omega), if_neg hc]
    rfl
  · obtain ⟨q1, q2, q3⟩ := hp k hk
    obtain ⟨n1, n2, n3⟩ := hr.kn q1
    unfold mX8_isTooWindy_b10
    rw [gdI_at k1 (by omega), z2, if_neg (nI_ge hk (by omega)), dR hN, y6, gdR_at k1 (by omega), z3, alR_n (by omega) k2 (by omega), q3, gdI_at (kdGr _ q1.1).1 (by have := q1.1; omega), n3, show (2 : Int32) = nI 2 from rfl, nI_add, alI_n (show 2 + kN s (pgi s l k) < ln 9 from show _ < 10 by omega) (by decide) (by omega), hr.ru (by omega), if_pos (Classical.byContradiction hc)]
theorem cMay (hr : Rel s) (hg : GN s g) (hh : GN s h) : mX8_mayLeaveAhead 0 (some (56 + 2 * g)) (some (56 + 2 * h)) s = some (if rnk s h < rnk s g then 0 else 1, s) := by
  have hN := hr.1.1
  have q := hr.1
  obtain ⟨h0, y0, y1, y2, y3, y4, y5, y6, -⟩ := q
  obtain ⟨n1, n2, n3⟩ := hr.kn hg
  obtain ⟨m1, m2, m3⟩ := hr.kn hh
  have hg20 := hg.1
  have hh20 := hh.1
  unfold mX8_mayLeaveAhead
  rw [dR hN, y6, gdI_at (kdGr g hg20).1 (by omega), n3, show (6 : Int32) = nI 6 from rfl, nI_add, alI_n (show 6 + kN s g < ln 9 from show _ < 10 by omega) (by decide) (by omega), hr.ru (by omega), dR hN, y6, gdI_at (kdGr h hh20).1 (by omega), m3, nI_add, alI_n (show 6 + kN s h < ln 9 from show _ < 10 by omega) (by decide) (by omega), hr.ru (by omega)]
  show (if rnk s h < rnk s g then _ else _) = _
  by_cases hc : rnk s h < rnk s g
  · rw [if_pos hc, if_pos hc]; rfl
  · rw [if_neg hc, if_neg hc]; rfl
theorem le_nlt32 {a b : Int32} : a ≤ b ↔ ¬ b < a := by
  rw [Int32.le_iff_toInt_le, Int32.lt_iff_toInt_lt]
  omega
theorem cRanks (hQ : LQ s l m) : (cW9 s l m → mX8_ranksAllow 0 (some (99 + 7 * l)) s = some (0, s)) ∧ (¬ cW9 s l m → mX8_ranksAllow 0 (some (99 + 7 * l)) s = some (1, s)) := by
  obtain ⟨hr, hv, hp⟩ := hQ
  obtain ⟨hl, hm, z1, z2, z3, z9, ⟨hN, hM⟩, z4⟩ := id hv
  obtain ⟨k1, k2, k3, k4, k5, -⟩ := kdLo l hl
  rcases Nat.eq_zero_or_pos m with h0 | h0
  · subst h0
    refine ⟨fun ⟨i, hi, _⟩ => absurd hi (Nat.not_lt_zero i), fun _ => ?_⟩
    show mX8_ranksAllow_b2 (some (99 + 7 * l)) 0 (lp (mX8_ranksAllow_b2 (some (99 + 7 * l)) 0) 3999) 1 s = _
    unfold mX8_ranksAllow_b2
    rw [gdI_at k1 (by omega), z2, if_pos (by decide)]
    rfl
  have stp : ∀ k, k + 1 < m → ∀ r, mX8_ranksAllow_b2 (some (99 + 7 * l)) 0 r (nI (k + 1)) s = if rnk s (pgi s l (k + 1)) < rnk s (pgi s l k) then some (0, s) else r (nI (k + 1) + 1) s := by
    intro k hk r
    obtain ⟨q1, q2, q3⟩ := hp (k + 1) hk
    obtain ⟨p1, p2, p3⟩ := hp k (by omega)
    unfold mX8_ranksAllow_b2
    rw [gdI_at k1 (by omega), z2, if_neg (nI_ge hk (by omega)), gdR_at k1 (by omega), z3, nI_pred, alR_n (show k < ln _ by omega) k2 (by omega), p3, gdR_at k1 (by omega), z3, alR_n (show k + 1 < ln _ by omega) k2 (by omega), q3, c8 hN, cMay hr p1 q1, cl_some]
    by_cases hc : rnk s (pgi s l (k + 1)) < rnk s (pgi s l k)
    · rw [if_pos hc, if_pos hc, if_neg (by decide)]; rfl
    · rw [if_neg hc, if_neg hc, if_pos (by decide)]
  suffices hgo : ∀ (d f k : Nat), m = k + 1 + d → d < f → ((∃ i, i < m ∧ k + 1 ≤ i ∧ ¬ rnk s (pgi s l (i - 1)) ≤ rnk s (pgi s l i)) → lp (mX8_ranksAllow_b2 (some (99 + 7 * l)) 0) f (nI (k + 1)) s = some (0, s)) ∧ (¬ (∃ i, i < m ∧ k + 1 ≤ i ∧ ¬ rnk s (pgi s l (i - 1)) ≤ rnk s (pgi s l i)) → lp (mX8_ranksAllow_b2 (some (99 + 7 * l)) 0) f (nI (k + 1)) s = some (1, s)) by
    have h9 := hgo (m - 1) FU 0 (by omega) (show m - 1 < 4000 by omega)
    exact ⟨h9.1, h9.2⟩
  intro d
  induction d with
  | zero =>
    intro f k hk hf
    obtain ⟨f, rfl⟩ : ∃ g, f = g + 1 := ⟨f - 1, by omega⟩
    refine ⟨fun ⟨i, a, b, c⟩ => absurd a (by omega), fun _ => ?_⟩
    show mX8_ranksAllow_b2 (some (99 + 7 * l)) 0 _ (nI (k + 1)) s = _
    unfold mX8_ranksAllow_b2
    rw [gdI_at k1 (by omega), z2, if_pos (nI_le (by omega) (by omega))]
    rfl
  | succ d ih =>
    intro f k hk hf
    obtain ⟨f, rfl⟩ : ∃ g, f = g + 1 := ⟨f - 1, by omega⟩
    have h9 := ih f (k + 1) (by omega) (by omega)
    show ((∃ i, i < m ∧ k + 1 ≤ i ∧ ¬ rnk s (pgi s l (i - 1)) ≤ rnk s (pgi s l i)) → mX8_ranksAllow_b2 (some (99 + 7 * l)) 0 (lp (mX8_ranksAllow_b2 (some (99 + 7 * l)) 0) f) (nI (k + 1)) s = some (0, s)) ∧ (¬ (∃ i, i < m ∧ k + 1 ≤ i ∧ ¬ rnk s (pgi s l (i - 1)) ≤ rnk s (pgi s l i)) → mX8_ranksAllow_b2 (some (99 + 7 * l)) 0 (lp (mX8_ranksAllow_b2 (some (99 + 7 * l)) 0) f) (nI (k + 1)) s = some (1, s))
    rw [stp k (by omega), nI_1]
    by_cases hc : rnk s (pgi s l (k + 1)) < rnk s (pgi s l k)
    · rw [if_pos hc]
      refine ⟨fun _ => rfl, fun z => absurd ⟨k + 1, by omega, Nat.le_refl _, ?_⟩ z⟩
      rw [le_nlt32, Nat.add_sub_cancel]
      exact fun z => z hc
    · rw [if_neg hc]
      refine ⟨fun ⟨i, a, b, c⟩ => h9.1 ⟨i, a, ?_, c⟩, fun z => h9.2 (fun ⟨i, a, b, c⟩ => z ⟨i, a, by omega, c⟩)⟩
      by_cases hik : i = k + 1
      · subst hik
        rw [le_nlt32, Nat.add_sub_cancel] at c
        exact absurd hc c
      · omega
end CW
