theorem swc_all {β : Type} {P : Option β → Prop} {v : Int32} {lo : Int} {xs : List (Option β)} {d : Option β} (hx : ∀ x ∈ xs, P x) (hd : P d) : P (swc v lo xs d) := by
  unfold swc
  split
  · exact hd
  · rw [List.getD_eq_getElem?_getD]
    cases h : xs[(v.toInt - lo).toNat]? with
    | none => exact hd
    | some x => exact hx x (List.mem_of_getElem? h)
theorem gX_in {β : Type} {xs : Nat → Int32} {L k : Nat} {i : Int32} {f : Int32 → Option β} (hi : i = nI k) (hk : k < L) (hL : L ≤ 3072) : gX xs L i f = f (xs k) := by
  subst hi
  unfold gX
  rw [nI_clamp (by omega), if_pos]
  intro h
  rcases h with h | h
  · exact nI_pos (by omega) h
  · omega
theorem lnX_eq {β : Type} {L : Nat} {f : Int32 → Option β} : lnX L f = f (nI L) := rfl
set_option maxHeartbeats 4000000 in
set_option maxRecDepth 100000 in
theorem law_loop {xs : Nat → Int32} {L : Nat} (hL : L ≤ 3072) : ∀ (n k : Nat) (s : Sg), Rel s → k ≤ L → L < 6 * n + k → ∃ σ', lp (mL_law_b18 xs L (some 0) (some 207)) n (nI k) s = some (1, σ') := by
  intro n
  induction n with
  | zero => intro k s _ h1 h2; omega
  | succ n ih =>
    intro k s hr hk hn
    show ∃ σ', mL_law_b18 xs L (some 0) (some 207) (lp (mL_law_b18 xs L (some 0) (some 207)) n) (nI k) s = some (1, σ')
    generalize lp (mL_law_b18 xs L (some 0) (some 207)) n = rec at ih ⊢
    unfold mL_law_b18
    rw [lnX_eq]
    have hN : sN s = 249 := hr.1.1
    have e6 : (nI L - 6).toInt = (L : Int) - 6 := pk_sub_toInt (b := 6) (by omega) (by omega)
    have ek : (nI k).toInt = (k : Int) := nI_toInt (by omega)
    by_cases hlt : nI L - 6 < nI k
    · rw [if_pos hlt]
      exact ⟨s, rfl⟩
    · rw [if_neg hlt]
      have hle : k + 6 ≤ L := by
        rw [Int32.lt_iff_toInt_lt] at hlt
        omega
      have a1 : nI k + 1 = nI (k + 1) := nI_add k 1
      have a2 : nI k + 2 = nI (k + 2) := nI_add k 2
      have a3 : nI k + 3 = nI (k + 3) := nI_add k 3
      have a4 : nI k + 4 = nI (k + 4) := nI_add k 4
      have a5 : nI k + 5 = nI (k + 5) := nI_add k 5
      have a6 : nI k + 6 = nI (k + 6) := nI_add k 6
      have c8 : ∀ {β : Type} {f : Nat → Option β}, cv s 8 (some 0) f = f 0 := fun {β f} => cv_at (by decide) (by rw [hN]; decide)
      have c9 : ∀ {β : Type} {s1 : Sg} {f : Nat → Option β}, sN s1 = 249 → cv s1 9 (some 207) f = f 207 := fun {β s1 f} h => cv_at (by decide) (by rw [h]; decide)
      have go : ∀ s2, Rel s2 → ∃ σ', rec (nI k + 6) s2 = some (1, σ') := fun s2 h2 => by
        rw [a6]
        exact ih (k + 6) s2 h2 (by omega) (by omega)
      rw [gX_in rfl (by omega) hL]
      refine swc_all (P := fun x => ∃ σ', x = some ((1 : Int32), σ')) ?_ (go s hr)
      refine List.forall_mem_cons.mpr ⟨?_, ?_⟩
      · obtain ⟨v, s1, s2, e1, en, e2, h2⟩ := op_sheet s hr (xs (k + 1)) (xs (k + 2))
        rw [gX_in a1 (by omega) hL, gX_in a2 (by omega) hL, c8, e1]
        simp only [cl]
        rw [gX_in a1 (by omega) hL, gX_in a2 (by omega) hL, c9 en, e2]
        simp only []
        rw [if_pos trivial]
        exact go s2 h2
      refine List.forall_mem_cons.mpr ⟨?_, ?_⟩
      · obtain ⟨v, s1, s2, e1, en, e2, h2⟩ := op_cell s hr (xs (k + 1)) (xs (k + 2)) (xs (k + 3)) (xs (k + 4))
        rw [gX_in a1 (by omega) hL, gX_in a2 (by omega) hL, gX_in a3 (by omega) hL, gX_in a4 (by omega) hL, c8, e1]
        simp only [cl]
        rw [gX_in a1 (by omega) hL, gX_in a2 (by omega) hL, gX_in a3 (by omega) hL, gX_in a4 (by omega) hL, c9 en, e2]
        simp only []
        rw [if_pos trivial]
        exact go s2 h2
      refine List.forall_mem_cons.mpr ⟨?_, ?_⟩
      · obtain ⟨v, s1, s2, e1, en, e2, h2⟩ := op_gap s hr (xs (k + 1)) (xs (k + 2))
        rw [gX_in a1 (by omega) hL, gX_in a2 (by omega) hL, c8, e1]
        simp only [cl]
        rw [gX_in a1 (by omega) hL, gX_in a2 (by omega) hL, c9 en, e2]
        simp only []
        rw [if_pos trivial]
        exact go s2 h2
      refine List.forall_mem_cons.mpr ⟨?_, ?_⟩
      · obtain ⟨v, s1, s2, e1, en, e2, h2⟩ := op_lose s hr (xs (k + 1))
        rw [gX_in a1 (by omega) hL, c8, e1]
        simp only [cl]
        rw [gX_in a1 (by omega) hL, c9 en, e2]
        simp only []
        rw [if_pos trivial]
        exact go s2 h2
      refine List.forall_mem_cons.mpr ⟨?_, ?_⟩
      · obtain ⟨v, s1, s2, e1, en, e2, h2⟩ := op_told s hr (xs (k + 1)) (xs (k + 2))
        rw [gX_in a1 (by omega) hL, gX_in a2 (by omega) hL, c8, e1]
        simp only [cl]
        rw [gX_in a1 (by omega) hL, gX_in a2 (by omega) hL, c9 en, e2]
        simp only []
        rw [if_pos trivial]
        exact go s2 h2
      refine List.forall_mem_cons.mpr ⟨?_, ?_⟩
      · obtain ⟨v, s1, s2, e1, en, e2, h2⟩ := op_winds s hr (xs (k + 1)) (xs (k + 2))
        rw [gX_in a1 (by omega) hL, gX_in a2 (by omega) hL, c8, e1]
        simp only [cl]
        rw [gX_in a1 (by omega) hL, gX_in a2 (by omega) hL, c9 en, e2]
        simp only []
        rw [if_pos trivial]
        exact go s2 h2
      refine List.forall_mem_cons.mpr ⟨?_, ?_⟩
      · obtain ⟨v, s1, s2, e1, en, e2, h2⟩ := op_wind s hr (xs (k + 1)) (xs (k + 2)) (xs (k + 3))
        rw [gX_in a1 (by omega) hL, gX_in a2 (by omega) hL, gX_in a3 (by omega) hL, c8, e1]
        simp only [cl]
        rw [gX_in a1 (by omega) hL, gX_in a2 (by omega) hL, gX_in a3 (by omega) hL, c9 en, e2]
        simp only []
        rw [if_pos trivial]
        exact go s2 h2
      refine List.forall_mem_cons.mpr ⟨?_, ?_⟩
      · obtain ⟨v, s1, s2, e1, en, e2, h2⟩ := op_blows s hr (xs (k + 1)) (xs (k + 2))
        rw [gX_in a1 (by omega) hL, gX_in a2 (by omega) hL, c8, e1]
        simp only [cl]
        rw [gX_in a1 (by omega) hL, gX_in a2 (by omega) hL, c9 en, e2]
        simp only []
        rw [if_pos trivial]
        exact go s2 h2
      refine List.forall_mem_cons.mpr ⟨?_, ?_⟩
      · obtain ⟨v, s1, s2, e1, en, e2, h2⟩ := op_jumper s hr (xs (k + 1)) (xs (k + 2)) (xs (k + 3)) (xs (k + 4))
        rw [gX_in a1 (by omega) hL, gX_in a2 (by omega) hL, gX_in a3 (by omega) hL, gX_in a4 (by omega) hL, c8, e1]
        simp only [cl]
        rw [gX_in a1 (by omega) hL, gX_in a2 (by omega) hL, gX_in a3 (by omega) hL, gX_in a4 (by omega) hL, c9 en, e2]
        simp only []
        rw [if_pos trivial]
        exact go s2 h2
      refine List.forall_mem_cons.mpr ⟨?_, ?_⟩
      · obtain ⟨v, s1, s2, e1, en, e2, h2⟩ := op_group s hr (xs (k + 1)) (xs (k + 2)) (xs (k + 3)) (xs (k + 4))
        rw [gX_in a1 (by omega) hL, gX_in a2 (by omega) hL, gX_in a3 (by omega) hL, gX_in a4 (by omega) hL, c8, e1]
        simp only [cl]
        rw [gX_in a1 (by omega) hL, gX_in a2 (by omega) hL, gX_in a3 (by omega) hL, gX_in a4 (by omega) hL, c9 en, e2]
        simp only []
        rw [if_pos trivial]
        exact go s2 h2
      refine List.forall_mem_cons.mpr ⟨?_, ?_⟩
      · obtain ⟨v, s1, s2, e1, en, e2, h2⟩ := op_join s hr (xs (k + 1)) (xs (k + 2))
        rw [gX_in a1 (by omega) hL, gX_in a2 (by omega) hL, c8, e1]
        simp only [cl]
        rw [gX_in a1 (by omega) hL, gX_in a2 (by omega) hL, c9 en, e2]
        simp only []
        rw [if_pos trivial]
        exact go s2 h2
      refine List.forall_mem_cons.mpr ⟨?_, ?_⟩
      · obtain ⟨v, s1, s2, e1, en, e2, h2⟩ := op_of s hr (xs (k + 1)) (xs (k + 2))
        rw [gX_in a1 (by omega) hL, gX_in a2 (by omega) hL, c8, e1]
        simp only [cl]
        rw [gX_in a1 (by omega) hL, gX_in a2 (by omega) hL, c9 en, e2]
        simp only []
        rw [if_pos trivial]
        exact go s2 h2
      refine List.forall_mem_cons.mpr ⟨?_, ?_⟩
      · obtain ⟨v, s1, s2, e1, en, e2, h2⟩ := op_plane s hr (xs (k + 1)) (xs (k + 2)) (xs (k + 3)) (xs (k + 4)) (xs (k + 5))
        rw [gX_in a1 (by omega) hL, gX_in a2 (by omega) hL, gX_in a3 (by omega) hL, gX_in a4 (by omega) hL, gX_in a5 (by omega) hL, c8, e1]
        simp only [cl]
        rw [gX_in a1 (by omega) hL, gX_in a2 (by omega) hL, gX_in a3 (by omega) hL, gX_in a4 (by omega) hL, gX_in a5 (by omega) hL, c9 en, e2]
        simp only []
        rw [if_pos trivial]
        exact go s2 h2
      refine List.forall_mem_cons.mpr ⟨?_, ?_⟩
      · obtain ⟨v, s1, s2, e1, en, e2, h2⟩ := op_rule s hr (xs (k + 1)) (xs (k + 2))
        rw [gX_in a1 (by omega) hL, gX_in a2 (by omega) hL, c8, e1]
        simp only [cl]
        rw [gX_in a1 (by omega) hL, gX_in a2 (by omega) hL, c9 en, e2]
        simp only []
        rw [if_pos trivial]
        exact go s2 h2
      refine List.forall_mem_cons.mpr ⟨?_, ?_⟩
      · obtain ⟨v, s1, s2, e1, en, e2, h2⟩ := op_load s hr (xs (k + 1))
        rw [gX_in a1 (by omega) hL, c8, e1]
        simp only [cl]
        rw [gX_in a1 (by omega) hL, c9 en, e2]
        simp only []
        rw [if_pos trivial]
        exact go s2 h2
      refine List.forall_mem_cons.mpr ⟨?_, ?_⟩
      · obtain ⟨v, s1, s2, e1, en, e2, h2⟩ := op_put s hr (xs (k + 1)) (xs (k + 2)) (xs (k + 3))
        rw [gX_in a1 (by omega) hL, gX_in a2 (by omega) hL, gX_in a3 (by omega) hL, c8, e1]
        simp only [cl]
        rw [gX_in a1 (by omega) hL, gX_in a2 (by omega) hL, gX_in a3 (by omega) hL, c9 en, e2]
        simp only []
        rw [if_pos trivial]
        exact go s2 h2
      refine List.forall_mem_cons.mpr ⟨?_, ?_⟩
      · obtain ⟨v, s1, s2, e1, en, e2, h2⟩ := op_out s hr (xs (k + 1)) (xs (k + 2))
        rw [gX_in a1 (by omega) hL, gX_in a2 (by omega) hL, c8, e1]
        simp only [cl]
        rw [gX_in a1 (by omega) hL, gX_in a2 (by omega) hL, c9 en, e2]
        simp only []
        rw [if_pos trivial]
        exact go s2 h2
      refine List.forall_mem_cons.mpr ⟨?_, ?_⟩
      · obtain ⟨v, s1, s2, e1, en, e2, h2⟩ := op_pause s hr (xs (k + 1)) (xs (k + 2)) (xs (k + 3))
        rw [gX_in a1 (by omega) hL, gX_in a2 (by omega) hL, gX_in a3 (by omega) hL, c8, e1]
        simp only [cl]
        rw [gX_in a1 (by omega) hL, gX_in a2 (by omega) hL, gX_in a3 (by omega) hL, c9 en, e2]
        simp only []
        rw [if_pos trivial]
        exact go s2 h2
      refine List.forall_mem_cons.mpr ⟨?_, ?_⟩
      · obtain ⟨v, s1, s2, e1, en, e2, h2⟩ := op_start s hr (xs (k + 1)) (xs (k + 2))
        rw [gX_in a1 (by omega) hL, gX_in a2 (by omega) hL, c8, e1]
        simp only [cl]
        rw [gX_in a1 (by omega) hL, gX_in a2 (by omega) hL, c9 en, e2]
        simp only []
        rw [if_pos trivial]
        exact go s2 h2
      refine List.forall_mem_cons.mpr ⟨?_, ?_⟩
      · obtain ⟨v, s1, s2, e1, en, e2, h2⟩ := op_in s hr (xs (k + 1)) (xs (k + 2))
        rw [gX_in a1 (by omega) hL, gX_in a2 (by omega) hL, c8, e1]
        simp only [cl]
        rw [gX_in a1 (by omega) hL, gX_in a2 (by omega) hL, c9 en, e2]
        simp only []
        rw [if_pos trivial]
        exact go s2 h2
      refine List.forall_mem_cons.mpr ⟨?_, ?_⟩
      · obtain ⟨v, s1, s2, e1, en, e2, h2⟩ := op_where s hr (xs (k + 1)) (xs (k + 2)) (xs (k + 3)) (xs (k + 4))
        rw [gX_in a1 (by omega) hL, gX_in a2 (by omega) hL, gX_in a3 (by omega) hL, gX_in a4 (by omega) hL, c8, e1]
        simp only [cl]
        rw [gX_in a1 (by omega) hL, gX_in a2 (by omega) hL, gX_in a3 (by omega) hL, gX_in a4 (by omega) hL, c9 en, e2]
        simp only []
        rw [if_pos trivial]
        exact go s2 h2
      refine List.forall_mem_cons.mpr ⟨?_, ?_⟩
      · obtain ⟨v, s1, s2, e1, en, e2, h2⟩ := op_near s hr (xs (k + 1)) (xs (k + 2)) (xs (k + 3))
        rw [gX_in a1 (by omega) hL, gX_in a2 (by omega) hL, gX_in a3 (by omega) hL, c8, e1]
        simp only [cl]
        rw [gX_in a1 (by omega) hL, gX_in a2 (by omega) hL, gX_in a3 (by omega) hL, c9 en, e2]
        simp only []
        rw [if_pos (by simp [lg_cmp])]
        exact go s2 h2
      refine List.forall_mem_cons.mpr ⟨?_, ?_⟩
      · obtain ⟨v, s1, s2, e1, en, e2, h2⟩ := op_between s hr (xs (k + 1)) (xs (k + 2)) (xs (k + 3))
        rw [gX_in a1 (by omega) hL, gX_in a2 (by omega) hL, gX_in a3 (by omega) hL, c8, e1]
        simp only [cl]
        rw [gX_in a1 (by omega) hL, gX_in a2 (by omega) hL, gX_in a3 (by omega) hL, c9 en, e2]
        simp only []
        rw [if_pos trivial]
        exact go s2 h2
      refine List.forall_mem_cons.mpr ⟨?_, ?_⟩
      · obtain ⟨v, s1, s2, e1, en, e2, h2⟩ := op_order s hr (xs (k + 1))
        rw [gX_in a1 (by omega) hL, c8, e1]
        simp only [cl]
        rw [gX_in a1 (by omega) hL, c9 en, e2]
        simp only []
        rw [if_pos trivial]
        exact go s2 h2
      refine List.forall_mem_cons.mpr ⟨?_, ?_⟩
      · obtain ⟨v, s1, s2, e1, en, e2, h2⟩ := op_spot s hr (xs (k + 1)) (xs (k + 2))
        rw [gX_in a1 (by omega) hL, gX_in a2 (by omega) hL, c8, e1]
        simp only [cl]
        rw [gX_in a1 (by omega) hL, gX_in a2 (by omega) hL, c9 en, e2]
        simp only []
        rw [if_pos trivial]
        exact go s2 h2
      refine List.forall_mem_cons.mpr ⟨?_, ?_⟩
      · obtain ⟨v, s1, s2, e1, en, e2, h2⟩ := op_why s hr (xs (k + 1)) (xs (k + 2))
        rw [gX_in a1 (by omega) hL, gX_in a2 (by omega) hL, c8, e1]
        simp only [cl]
        rw [gX_in a1 (by omega) hL, gX_in a2 (by omega) hL, c9 en, e2]
        simp only []
        rw [if_pos trivial]
        exact go s2 h2
      refine List.forall_mem_cons.mpr ⟨?_, ?_⟩
      · obtain ⟨v, s1, s2, e1, en, e2, h2⟩ := op_leave s hr (xs (k + 1)) (xs (k + 2))
        rw [gX_in a1 (by omega) hL, gX_in a2 (by omega) hL, c8, e1]
        simp only [cl]
        rw [gX_in a1 (by omega) hL, gX_in a2 (by omega) hL, c9 en, e2]
        simp only []
        rw [if_pos trivial]
        exact go s2 h2
      refine List.forall_mem_cons.mpr ⟨?_, ?_⟩
      · obtain ⟨v, s1, s2, e1, en, e2, h2⟩ := op_many s hr (xs (k + 1))
        rw [gX_in a1 (by omega) hL, c8, e1]
        simp only [cl]
        rw [gX_in a1 (by omega) hL, c9 en, e2]
        simp only []
        rw [if_pos trivial]
        exact go s2 h2
      exact fun _ h => absurd h List.not_mem_nil
theorem pure_law {L : Nat} {xs : Nat → Int32} (hL : L ≤ 3072) : ∃ σ', mL_law xs L sg0 = some (1, σ') := by
  have h1 : sgA = some sg1 := by
    have h := sgA_ok
    unfold sg1
    cases hq : sgA with
    | none => rw [hq] at h; cases h
    | some z => rfl
  obtain ⟨σ', h2⟩ := law_loop (xs := xs) hL FU 0 sg1 rel_first (Nat.zero_le L) (by unfold FU; omega)
  refine ⟨σ', ?_⟩
  unfold mL_law
  unfold sgA at h1
  unfold nwO at h1 ⊢
  rw [if_pos (by decide)] at h1 ⊢
  simp only [cx] at h1 ⊢
  revert h1
  cases hA : mX8_init (sN sg0) (gr sg0) with
  | none => intro h1; simp [cl] at h1
  | some q =>
    intro h1
    simp only [cl] at h1 ⊢
    split at h1
    · rename_i hk
      rw [if_pos hk]
      revert h1
      cases hB : mX9_init (sN q.2) (gr q.2) with
      | none => intro h1; simp at h1
      | some q2 =>
        intro h1
        simp only [] at h1 ⊢
        split at h1
        · rename_i hx
          have h3 := Option.some.inj h1
          rw [hx.1, hx.2, h3]
          exact h2
        · cases h1
    · cases h1
