theorem tq0 (i : Nat) {w : Cond} (h0 : tables_1_1[i]? = some w) : w ∈ lw_tbl := by
  have h := List.mem_of_getElem? h0
  have h1 : w ∈ tables_1 := List.mem_append_left _ (h)
  exact List.mem_append_right _ h1
theorem tq1 (i : Nat) {w : Cond} (h0 : tables_1_2[i]? = some w) : w ∈ lw_tbl := by
  have h := List.mem_of_getElem? h0
  have h1 : w ∈ tables_1 := List.mem_append_right _ (List.mem_append_left _ (h))
  exact List.mem_append_right _ h1
theorem tq2 (i : Nat) {w : Cond} (h0 : tables_1_3[i]? = some w) : w ∈ lw_tbl := by
  have h := List.mem_of_getElem? h0
  have h1 : w ∈ tables_1 := List.mem_append_right _ (List.mem_append_right _ (List.mem_append_left _ (h)))
  exact List.mem_append_right _ h1
theorem tq3 (i : Nat) {w : Cond} (h0 : tables_1_4[i]? = some w) : w ∈ lw_tbl := by
  have h := List.mem_of_getElem? h0
  have h1 : w ∈ tables_1 := List.mem_append_right _ (List.mem_append_right _ (List.mem_append_right _ (List.mem_append_left _ (h))))
  exact List.mem_append_right _ h1
theorem tq4 (i : Nat) {w : Cond} (h0 : tables_1_5[i]? = some w) : w ∈ lw_tbl := by
  have h := List.mem_of_getElem? h0
  have h1 : w ∈ tables_1 := List.mem_append_right _ (List.mem_append_right _ (List.mem_append_right _ (List.mem_append_right _ (List.mem_append_left _ (h)))))
  exact List.mem_append_right _ h1
theorem tq5 (i : Nat) {w : Cond} (h0 : tables_1_6[i]? = some w) : w ∈ lw_tbl := by
  have h := List.mem_of_getElem? h0
  have h1 : w ∈ tables_1 := List.mem_append_right _ (List.mem_append_right _ (List.mem_append_right _ (List.mem_append_right _ (List.mem_append_right _ (h)))))
  exact List.mem_append_right _ h1
theorem pq0 (i : Nat) {q : MethodName × Nat} (h0 : lw_privs_1[i]? = some q) : Cond.selects q.1.cls q.1 q.1 ∈ lw_tbl := by
  have h := List.mem_of_getElem? h0
  have h1 : q ∈ lw_privs := List.mem_append_left _ (h)
  exact List.mem_append_left _ (List.mem_map.mpr ⟨q, h1, rfl⟩)
theorem pq1 (i : Nat) {q : MethodName × Nat} (h0 : lw_privs_2[i]? = some q) : Cond.selects q.1.cls q.1 q.1 ∈ lw_tbl := by
  have h := List.mem_of_getElem? h0
  have h1 : q ∈ lw_privs := List.mem_append_right _ (List.mem_append_left _ (h))
  exact List.mem_append_left _ (List.mem_map.mpr ⟨q, h1, rfl⟩)
theorem pq2 (i : Nat) {q : MethodName × Nat} (h0 : lw_privs_3[i]? = some q) : Cond.selects q.1.cls q.1 q.1 ∈ lw_tbl := by
  have h := List.mem_of_getElem? h0
  have h1 : q ∈ lw_privs := List.mem_append_right _ (List.mem_append_right _ (List.mem_append_left _ (h)))
  exact List.mem_append_left _ (List.mem_map.mpr ⟨q, h1, rfl⟩)
theorem pq3 (i : Nat) {q : MethodName × Nat} (h0 : lw_privs_4[i]? = some q) : Cond.selects q.1.cls q.1 q.1 ∈ lw_tbl := by
  have h := List.mem_of_getElem? h0
  have h1 : q ∈ lw_privs := List.mem_append_right _ (List.mem_append_right _ (List.mem_append_right _ (List.mem_append_left _ (h))))
  exact List.mem_append_left _ (List.mem_map.mpr ⟨q, h1, rfl⟩)
theorem pq4 (i : Nat) {q : MethodName × Nat} (h0 : lw_privs_5[i]? = some q) : Cond.selects q.1.cls q.1 q.1 ∈ lw_tbl := by
  have h := List.mem_of_getElem? h0
  have h1 : q ∈ lw_privs := List.mem_append_right _ (List.mem_append_right _ (List.mem_append_right _ (List.mem_append_right _ (List.mem_append_left _ (h)))))
  exact List.mem_append_left _ (List.mem_map.mpr ⟨q, h1, rfl⟩)
theorem pq5 (i : Nat) {q : MethodName × Nat} (h0 : lw_privs_6[i]? = some q) : Cond.selects q.1.cls q.1 q.1 ∈ lw_tbl := by
  have h := List.mem_of_getElem? h0
  have h1 : q ∈ lw_privs := List.mem_append_right _ (List.mem_append_right _ (List.mem_append_right _ (List.mem_append_right _ (List.mem_append_right _ (List.mem_append_left _ (h))))))
  exact List.mem_append_left _ (List.mem_map.mpr ⟨q, h1, rfl⟩)
theorem pq6 (i : Nat) {q : MethodName × Nat} (h0 : lw_privs_7[i]? = some q) : Cond.selects q.1.cls q.1 q.1 ∈ lw_tbl := by
  have h := List.mem_of_getElem? h0
  have h1 : q ∈ lw_privs := List.mem_append_right _ (List.mem_append_right _ (List.mem_append_right _ (List.mem_append_right _ (List.mem_append_right _ (List.mem_append_right _ (List.mem_append_left _ (h)))))))
  exact List.mem_append_left _ (List.mem_map.mpr ⟨q, h1, rfl⟩)
theorem pq7 (i : Nat) {q : MethodName × Nat} (h0 : lw_privs_8[i]? = some q) : Cond.selects q.1.cls q.1 q.1 ∈ lw_tbl := by
  have h := List.mem_of_getElem? h0
  have h1 : q ∈ lw_privs := List.mem_append_right _ (List.mem_append_right _ (List.mem_append_right _ (List.mem_append_right _ (List.mem_append_right _ (List.mem_append_right _ (List.mem_append_right _ (h)))))))
  exact List.mem_append_left _ (List.mem_map.mpr ⟨q, h1, rfl⟩)
theorem wr1 : ∀ w ∈ wsL_law_r1, w ∈ lw_tbl := List.forall_mem_cons.mpr ⟨(tq0 13 rfl), List.forall_mem_cons.mpr ⟨(tq0 14 rfl), List.forall_mem_cons.mpr ⟨(tq0 1 rfl), List.forall_mem_cons.mpr ⟨(tq3 63 rfl), List.forall_mem_cons.mpr ⟨(tq3 64 rfl), List.forall_mem_cons.mpr ⟨(tq0 10 rfl), List.forall_mem_cons.mpr ⟨(tq0 15 rfl), List.forall_mem_cons.mpr ⟨(tq0 16 rfl), List.forall_mem_cons.mpr ⟨(tq0 17 rfl), List.forall_mem_cons.mpr ⟨(tq0 18 rfl), List.forall_mem_cons.mpr ⟨(tq0 19 rfl), List.forall_mem_cons.mpr ⟨(tq0 20 rfl), List.forall_mem_cons.mpr ⟨(tq0 21 rfl), List.forall_mem_cons.mpr ⟨(tq1 21 rfl), List.forall_mem_cons.mpr ⟨(tq0 23 rfl), List.forall_mem_cons.mpr ⟨(tq0 24 rfl), List.forall_mem_cons.mpr ⟨(tq0 2 rfl), List.forall_mem_cons.mpr ⟨(tq1 22 rfl), List.forall_mem_cons.mpr ⟨(tq0 37 rfl), List.forall_mem_cons.mpr ⟨(tq1 23 rfl), List.forall_mem_cons.mpr ⟨(tq0 39 rfl), List.forall_mem_cons.mpr ⟨(tq1 24 rfl), List.forall_mem_cons.mpr ⟨(tq0 41 rfl), List.forall_mem_cons.mpr ⟨(tq1 25 rfl), fun _ h => absurd h List.not_mem_nil⟩⟩⟩⟩⟩⟩⟩⟩⟩⟩⟩⟩⟩⟩⟩⟩⟩⟩⟩⟩⟩⟩⟩⟩
theorem wr2 : ∀ w ∈ wsL_law_r2, w ∈ lw_tbl := List.forall_mem_cons.mpr ⟨(tq0 43 rfl), List.forall_mem_cons.mpr ⟨(tq1 26 rfl), List.forall_mem_cons.mpr ⟨(tq0 45 rfl), List.forall_mem_cons.mpr ⟨(tq0 47 rfl), List.forall_mem_cons.mpr ⟨(tq0 48 rfl), List.forall_mem_cons.mpr ⟨(tq0 49 rfl), List.forall_mem_cons.mpr ⟨(tq0 50 rfl), List.forall_mem_cons.mpr ⟨(tq0 51 rfl), List.forall_mem_cons.mpr ⟨(tq0 53 rfl), List.forall_mem_cons.mpr ⟨(tq1 27 rfl), List.forall_mem_cons.mpr ⟨(tq0 54 rfl), List.forall_mem_cons.mpr ⟨(tq1 28 rfl), List.forall_mem_cons.mpr ⟨(tq0 56 rfl), List.forall_mem_cons.mpr ⟨(tq0 57 rfl), List.forall_mem_cons.mpr ⟨(tq0 3 rfl), List.forall_mem_cons.mpr ⟨(tq1 29 rfl), List.forall_mem_cons.mpr ⟨(tq1 30 rfl), List.forall_mem_cons.mpr ⟨(tq1 31 rfl), List.forall_mem_cons.mpr ⟨(tq0 79 rfl), List.forall_mem_cons.mpr ⟨(tq0 4 rfl), List.forall_mem_cons.mpr ⟨(tq0 101 rfl), List.forall_mem_cons.mpr ⟨(tq0 5 rfl), List.forall_mem_cons.mpr ⟨(tq0 123 rfl), List.forall_mem_cons.mpr ⟨(tq0 6 rfl), fun _ h => absurd h List.not_mem_nil⟩⟩⟩⟩⟩⟩⟩⟩⟩⟩⟩⟩⟩⟩⟩⟩⟩⟩⟩⟩⟩⟩⟩⟩
theorem wr3 : ∀ w ∈ wsL_law_r3, w ∈ lw_tbl := List.forall_mem_cons.mpr ⟨(tq0 159 rfl), List.forall_mem_cons.mpr ⟨(tq0 7 rfl), List.forall_mem_cons.mpr ⟨(tq0 188 rfl), List.forall_mem_cons.mpr ⟨(tq0 8 rfl), List.forall_mem_cons.mpr ⟨(tq0 236 rfl), List.forall_mem_cons.mpr ⟨(tq0 9 rfl), List.forall_mem_cons.mpr ⟨(tq0 26 rfl), List.forall_mem_cons.mpr ⟨(tq0 27 rfl), List.forall_mem_cons.mpr ⟨(tq0 28 rfl), List.forall_mem_cons.mpr ⟨(tq0 36 rfl), List.forall_mem_cons.mpr ⟨(tq0 29 rfl), List.forall_mem_cons.mpr ⟨(tq0 30 rfl), List.forall_mem_cons.mpr ⟨(tq0 59 rfl), List.forall_mem_cons.mpr ⟨(tq0 60 rfl), List.forall_mem_cons.mpr ⟨(tq0 61 rfl), List.forall_mem_cons.mpr ⟨(tq0 62 rfl), List.forall_mem_cons.mpr ⟨(tq0 63 rfl), List.forall_mem_cons.mpr ⟨(tq0 64 rfl), List.forall_mem_cons.mpr ⟨(tq0 65 rfl), List.forall_mem_cons.mpr ⟨(tq0 66 rfl), List.forall_mem_cons.mpr ⟨(tq0 81 rfl), List.forall_mem_cons.mpr ⟨(tq0 82 rfl), List.forall_mem_cons.mpr ⟨(tq0 83 rfl), List.forall_mem_cons.mpr ⟨(tq0 99 rfl), fun _ h => absurd h List.not_mem_nil⟩⟩⟩⟩⟩⟩⟩⟩⟩⟩⟩⟩⟩⟩⟩⟩⟩⟩⟩⟩⟩⟩⟩⟩
theorem wr4 : ∀ w ∈ wsL_law_r4, w ∈ lw_tbl := List.forall_mem_cons.mpr ⟨(tq0 84 rfl), List.forall_mem_cons.mpr ⟨(tq0 100 rfl), List.forall_mem_cons.mpr ⟨(tq0 85 rfl), List.forall_mem_cons.mpr ⟨(tq0 86 rfl), List.forall_mem_cons.mpr ⟨(tq0 88 rfl), List.forall_mem_cons.mpr ⟨(tq0 103 rfl), List.forall_mem_cons.mpr ⟨(tq0 104 rfl), List.forall_mem_cons.mpr ⟨(tq0 105 rfl), List.forall_mem_cons.mpr ⟨(tq0 108 rfl), List.forall_mem_cons.mpr ⟨(tq0 110 rfl), List.forall_mem_cons.mpr ⟨(tq0 112 rfl), List.forall_mem_cons.mpr ⟨(tq0 106 rfl), List.forall_mem_cons.mpr ⟨(tq0 125 rfl), List.forall_mem_cons.mpr ⟨(tq0 126 rfl), List.forall_mem_cons.mpr ⟨(tq0 127 rfl), List.forall_mem_cons.mpr ⟨(tq0 128 rfl), List.forall_mem_cons.mpr ⟨(tq0 132 rfl), List.forall_mem_cons.mpr ⟨(tq0 133 rfl), List.forall_mem_cons.mpr ⟨(tq0 136 rfl), List.forall_mem_cons.mpr ⟨(tq0 139 rfl), List.forall_mem_cons.mpr ⟨(tq0 140 rfl), List.forall_mem_cons.mpr ⟨(tq0 142 rfl), List.forall_mem_cons.mpr ⟨(tq0 129 rfl), List.forall_mem_cons.mpr ⟨(tq0 161 rfl), fun _ h => absurd h List.not_mem_nil⟩⟩⟩⟩⟩⟩⟩⟩⟩⟩⟩⟩⟩⟩⟩⟩⟩⟩⟩⟩⟩⟩⟩⟩
theorem wr5 : ∀ w ∈ wsL_law_r5, w ∈ lw_tbl := List.forall_mem_cons.mpr ⟨(tq0 162 rfl), List.forall_mem_cons.mpr ⟨(tq0 163 rfl), List.forall_mem_cons.mpr ⟨(tq0 167 rfl), List.forall_mem_cons.mpr ⟨(tq0 169 rfl), List.forall_mem_cons.mpr ⟨(tq0 171 rfl), List.forall_mem_cons.mpr ⟨(tq0 164 rfl), List.forall_mem_cons.mpr ⟨(tq0 175 rfl), List.forall_mem_cons.mpr ⟨(tq0 165 rfl), List.forall_mem_cons.mpr ⟨(tq0 190 rfl), List.forall_mem_cons.mpr ⟨(tq0 191 rfl), List.forall_mem_cons.mpr ⟨(tq0 192 rfl), List.forall_mem_cons.mpr ⟨(tq0 193 rfl), List.forall_mem_cons.mpr ⟨(tq0 198 rfl), List.forall_mem_cons.mpr ⟨(tq0 201 rfl), List.forall_mem_cons.mpr ⟨(tq0 194 rfl), List.forall_mem_cons.mpr ⟨(tq0 204 rfl), List.forall_mem_cons.mpr ⟨(tq0 196 rfl), List.forall_mem_cons.mpr ⟨(tq0 205 rfl), List.forall_mem_cons.mpr ⟨(tq0 206 rfl), List.forall_mem_cons.mpr ⟨(tq0 208 rfl), List.forall_mem_cons.mpr ⟨(tq0 210 rfl), List.forall_mem_cons.mpr ⟨(tq0 213 rfl), List.forall_mem_cons.mpr ⟨(tq0 215 rfl), List.forall_mem_cons.mpr ⟨(tq0 238 rfl), fun _ h => absurd h List.not_mem_nil⟩⟩⟩⟩⟩⟩⟩⟩⟩⟩⟩⟩⟩⟩⟩⟩⟩⟩⟩⟩⟩⟩⟩⟩
theorem wr6 : ∀ w ∈ wsL_law_r6, w ∈ lw_tbl := List.forall_mem_cons.mpr ⟨(tq0 239 rfl), List.forall_mem_cons.mpr ⟨(tq1 0 rfl), List.forall_mem_cons.mpr ⟨(tq1 1 rfl), List.forall_mem_cons.mpr ⟨(tq1 3 rfl), List.forall_mem_cons.mpr ⟨(tq1 5 rfl), List.forall_mem_cons.mpr ⟨(tq1 7 rfl), List.forall_mem_cons.mpr ⟨(tq1 8 rfl), List.forall_mem_cons.mpr ⟨(tq3 65 rfl), List.forall_mem_cons.mpr ⟨(tq3 66 rfl), List.forall_mem_cons.mpr ⟨(tq3 67 rfl), List.forall_mem_cons.mpr ⟨(tq3 68 rfl), List.forall_mem_cons.mpr ⟨(tq3 70 rfl), List.forall_mem_cons.mpr ⟨(tq3 71 rfl), List.forall_mem_cons.mpr ⟨(tq3 72 rfl), List.forall_mem_cons.mpr ⟨(tq3 73 rfl), List.forall_mem_cons.mpr ⟨(tq3 74 rfl), List.forall_mem_cons.mpr ⟨(tq3 75 rfl), List.forall_mem_cons.mpr ⟨(tq3 76 rfl), List.forall_mem_cons.mpr ⟨(tq3 77 rfl), List.forall_mem_cons.mpr ⟨(tq3 79 rfl), List.forall_mem_cons.mpr ⟨(tq3 80 rfl), List.forall_mem_cons.mpr ⟨(tq3 81 rfl), List.forall_mem_cons.mpr ⟨(tq3 82 rfl), List.forall_mem_cons.mpr ⟨(tq3 83 rfl), fun _ h => absurd h List.not_mem_nil⟩⟩⟩⟩⟩⟩⟩⟩⟩⟩⟩⟩⟩⟩⟩⟩⟩⟩⟩⟩⟩⟩⟩⟩
theorem wr7 : ∀ w ∈ wsL_law_r7, w ∈ lw_tbl := List.forall_mem_cons.mpr ⟨(tq3 84 rfl), List.forall_mem_cons.mpr ⟨(tq3 85 rfl), List.forall_mem_cons.mpr ⟨(tq3 86 rfl), List.forall_mem_cons.mpr ⟨(tq3 87 rfl), List.forall_mem_cons.mpr ⟨(tq3 88 rfl), List.forall_mem_cons.mpr ⟨(tq3 89 rfl), List.forall_mem_cons.mpr ⟨(tq3 91 rfl), List.forall_mem_cons.mpr ⟨(tq3 92 rfl), List.forall_mem_cons.mpr ⟨(tq3 93 rfl), List.forall_mem_cons.mpr ⟨(tq3 94 rfl), List.forall_mem_cons.mpr ⟨(tq3 95 rfl), List.forall_mem_cons.mpr ⟨(tq3 96 rfl), List.forall_mem_cons.mpr ⟨(tq3 97 rfl), List.forall_mem_cons.mpr ⟨(tq3 98 rfl), List.forall_mem_cons.mpr ⟨(tq3 99 rfl), List.forall_mem_cons.mpr ⟨(tq3 100 rfl), List.forall_mem_cons.mpr ⟨(tq3 102 rfl), List.forall_mem_cons.mpr ⟨(tq3 103 rfl), List.forall_mem_cons.mpr ⟨(tq3 106 rfl), List.forall_mem_cons.mpr ⟨(tq3 107 rfl), List.forall_mem_cons.mpr ⟨(tq3 108 rfl), List.forall_mem_cons.mpr ⟨(tq3 109 rfl), List.forall_mem_cons.mpr ⟨(tq3 110 rfl), List.forall_mem_cons.mpr ⟨(tq3 111 rfl), fun _ h => absurd h List.not_mem_nil⟩⟩⟩⟩⟩⟩⟩⟩⟩⟩⟩⟩⟩⟩⟩⟩⟩⟩⟩⟩⟩⟩⟩⟩
theorem wr8 : ∀ w ∈ wsL_law_r8, w ∈ lw_tbl := List.forall_mem_cons.mpr ⟨(tq3 112 rfl), List.forall_mem_cons.mpr ⟨(tq3 113 rfl), List.forall_mem_cons.mpr ⟨(tq3 114 rfl), List.forall_mem_cons.mpr ⟨(tq3 115 rfl), List.forall_mem_cons.mpr ⟨(tq3 69 rfl), List.forall_mem_cons.mpr ⟨(tq1 55 rfl), List.forall_mem_cons.mpr ⟨(tq1 56 rfl), List.forall_mem_cons.mpr ⟨(tq1 57 rfl), List.forall_mem_cons.mpr ⟨(tq1 58 rfl), List.forall_mem_cons.mpr ⟨(tq1 59 rfl), List.forall_mem_cons.mpr ⟨(tq1 61 rfl), List.forall_mem_cons.mpr ⟨(pq0 0 rfl), List.forall_mem_cons.mpr ⟨(tq1 62 rfl), List.forall_mem_cons.mpr ⟨(tq1 65 rfl), List.forall_mem_cons.mpr ⟨(pq0 1 rfl), List.forall_mem_cons.mpr ⟨(tq1 66 rfl), List.forall_mem_cons.mpr ⟨(tq3 215 rfl), List.forall_mem_cons.mpr ⟨(tq3 216 rfl), List.forall_mem_cons.mpr ⟨(tq3 217 rfl), List.forall_mem_cons.mpr ⟨(tq3 218 rfl), List.forall_mem_cons.mpr ⟨(tq3 219 rfl), List.forall_mem_cons.mpr ⟨(tq3 220 rfl), List.forall_mem_cons.mpr ⟨(tq3 221 rfl), List.forall_mem_cons.mpr ⟨(tq3 222 rfl), fun _ h => absurd h List.not_mem_nil⟩⟩⟩⟩⟩⟩⟩⟩⟩⟩⟩⟩⟩⟩⟩⟩⟩⟩⟩⟩⟩⟩⟩⟩
theorem wr9 : ∀ w ∈ wsL_law_r9, w ∈ lw_tbl := List.forall_mem_cons.mpr ⟨(tq3 223 rfl), List.forall_mem_cons.mpr ⟨(tq3 224 rfl), List.forall_mem_cons.mpr ⟨(tq3 225 rfl), List.forall_mem_cons.mpr ⟨(tq1 67 rfl), List.forall_mem_cons.mpr ⟨(tq1 68 rfl), List.forall_mem_cons.mpr ⟨(tq1 69 rfl), List.forall_mem_cons.mpr ⟨(tq1 70 rfl), List.forall_mem_cons.mpr ⟨(tq1 71 rfl), List.forall_mem_cons.mpr ⟨(tq1 72 rfl), List.forall_mem_cons.mpr ⟨(tq1 73 rfl), List.forall_mem_cons.mpr ⟨(tq1 76 rfl), List.forall_mem_cons.mpr ⟨(pq0 2 rfl), List.forall_mem_cons.mpr ⟨(tq1 77 rfl), List.forall_mem_cons.mpr ⟨(tq1 80 rfl), List.forall_mem_cons.mpr ⟨(pq0 3 rfl), List.forall_mem_cons.mpr ⟨(tq1 81 rfl), List.forall_mem_cons.mpr ⟨(tq1 82 rfl), List.forall_mem_cons.mpr ⟨(tq3 226 rfl), List.forall_mem_cons.mpr ⟨(tq3 227 rfl), List.forall_mem_cons.mpr ⟨(tq3 228 rfl), List.forall_mem_cons.mpr ⟨(tq3 229 rfl), List.forall_mem_cons.mpr ⟨(tq3 230 rfl), List.forall_mem_cons.mpr ⟨(tq1 83 rfl), List.forall_mem_cons.mpr ⟨(tq1 84 rfl), fun _ h => absurd h List.not_mem_nil⟩⟩⟩⟩⟩⟩⟩⟩⟩⟩⟩⟩⟩⟩⟩⟩⟩⟩⟩⟩⟩⟩⟩⟩
theorem wr10 : ∀ w ∈ wsL_law_r10, w ∈ lw_tbl := List.forall_mem_cons.mpr ⟨(tq1 85 rfl), List.forall_mem_cons.mpr ⟨(tq1 86 rfl), List.forall_mem_cons.mpr ⟨(tq1 89 rfl), List.forall_mem_cons.mpr ⟨(pq0 4 rfl), List.forall_mem_cons.mpr ⟨(tq1 90 rfl), List.forall_mem_cons.mpr ⟨(tq3 231 rfl), List.forall_mem_cons.mpr ⟨(tq3 232 rfl), List.forall_mem_cons.mpr ⟨(tq3 233 rfl), List.forall_mem_cons.mpr ⟨(tq3 234 rfl), List.forall_mem_cons.mpr ⟨(tq1 91 rfl), List.forall_mem_cons.mpr ⟨(tq1 92 rfl), List.forall_mem_cons.mpr ⟨(tq1 93 rfl), List.forall_mem_cons.mpr ⟨(tq1 94 rfl), List.forall_mem_cons.mpr ⟨(tq3 235 rfl), List.forall_mem_cons.mpr ⟨(tq3 236 rfl), List.forall_mem_cons.mpr ⟨(tq3 237 rfl), List.forall_mem_cons.mpr ⟨(tq3 238 rfl), List.forall_mem_cons.mpr ⟨(tq1 95 rfl), List.forall_mem_cons.mpr ⟨(tq1 96 rfl), List.forall_mem_cons.mpr ⟨(tq1 97 rfl), List.forall_mem_cons.mpr ⟨(tq1 98 rfl), List.forall_mem_cons.mpr ⟨(tq1 99 rfl), List.forall_mem_cons.mpr ⟨(tq1 112 rfl), List.forall_mem_cons.mpr ⟨(tq1 102 rfl), fun _ h => absurd h List.not_mem_nil⟩⟩⟩⟩⟩⟩⟩⟩⟩⟩⟩⟩⟩⟩⟩⟩⟩⟩⟩⟩⟩⟩⟩⟩
theorem wr11 : ∀ w ∈ wsL_law_r11, w ∈ lw_tbl := List.forall_mem_cons.mpr ⟨(pq0 5 rfl), List.forall_mem_cons.mpr ⟨(tq1 103 rfl), List.forall_mem_cons.mpr ⟨(tq1 104 rfl), List.forall_mem_cons.mpr ⟨(tq1 106 rfl), List.forall_mem_cons.mpr ⟨(pq0 6 rfl), List.forall_mem_cons.mpr ⟨(tq1 107 rfl), List.forall_mem_cons.mpr ⟨(tq1 108 rfl), List.forall_mem_cons.mpr ⟨(tq1 110 rfl), List.forall_mem_cons.mpr ⟨(pq0 7 rfl), List.forall_mem_cons.mpr ⟨(tq1 111 rfl), List.forall_mem_cons.mpr ⟨(tq3 239 rfl), List.forall_mem_cons.mpr ⟨(tq4 0 rfl), List.forall_mem_cons.mpr ⟨(tq4 1 rfl), List.forall_mem_cons.mpr ⟨(tq4 2 rfl), List.forall_mem_cons.mpr ⟨(tq4 3 rfl), List.forall_mem_cons.mpr ⟨(tq4 12 rfl), List.forall_mem_cons.mpr ⟨(tq4 4 rfl), List.forall_mem_cons.mpr ⟨(tq4 6 rfl), List.forall_mem_cons.mpr ⟨(pq5 0 rfl), List.forall_mem_cons.mpr ⟨(tq4 7 rfl), List.forall_mem_cons.mpr ⟨(tq4 8 rfl), List.forall_mem_cons.mpr ⟨(tq4 10 rfl), List.forall_mem_cons.mpr ⟨(pq5 1 rfl), List.forall_mem_cons.mpr ⟨(tq4 11 rfl), fun _ h => absurd h List.not_mem_nil⟩⟩⟩⟩⟩⟩⟩⟩⟩⟩⟩⟩⟩⟩⟩⟩⟩⟩⟩⟩⟩⟩⟩⟩
theorem wr12 : ∀ w ∈ wsL_law_r12, w ∈ lw_tbl := List.forall_mem_cons.mpr ⟨(tq1 113 rfl), List.forall_mem_cons.mpr ⟨(tq1 114 rfl), List.forall_mem_cons.mpr ⟨(tq1 115 rfl), List.forall_mem_cons.mpr ⟨(tq1 116 rfl), List.forall_mem_cons.mpr ⟨(tq1 117 rfl), List.forall_mem_cons.mpr ⟨(tq1 118 rfl), List.forall_mem_cons.mpr ⟨(tq1 119 rfl), List.forall_mem_cons.mpr ⟨(tq1 122 rfl), List.forall_mem_cons.mpr ⟨(pq0 8 rfl), List.forall_mem_cons.mpr ⟨(tq1 123 rfl), List.forall_mem_cons.mpr ⟨(tq1 124 rfl), List.forall_mem_cons.mpr ⟨(tq1 125 rfl), List.forall_mem_cons.mpr ⟨(tq0 11 rfl), List.forall_mem_cons.mpr ⟨(tq1 126 rfl), List.forall_mem_cons.mpr ⟨(tq1 128 rfl), List.forall_mem_cons.mpr ⟨(tq1 127 rfl), List.forall_mem_cons.mpr ⟨(tq1 129 rfl), List.forall_mem_cons.mpr ⟨(tq1 130 rfl), List.forall_mem_cons.mpr ⟨(tq1 131 rfl), List.forall_mem_cons.mpr ⟨(tq1 134 rfl), List.forall_mem_cons.mpr ⟨(pq0 9 rfl), List.forall_mem_cons.mpr ⟨(tq1 135 rfl), List.forall_mem_cons.mpr ⟨(tq4 13 rfl), List.forall_mem_cons.mpr ⟨(tq4 14 rfl), fun _ h => absurd h List.not_mem_nil⟩⟩⟩⟩⟩⟩⟩⟩⟩⟩⟩⟩⟩⟩⟩⟩⟩⟩⟩⟩⟩⟩⟩⟩
theorem wr13 : ∀ w ∈ wsL_law_r13, w ∈ lw_tbl := List.forall_mem_cons.mpr ⟨(tq4 15 rfl), List.forall_mem_cons.mpr ⟨(tq4 16 rfl), List.forall_mem_cons.mpr ⟨(tq4 22 rfl), List.forall_mem_cons.mpr ⟨(tq4 23 rfl), List.forall_mem_cons.mpr ⟨(tq4 17 rfl), List.forall_mem_cons.mpr ⟨(tq4 19 rfl), List.forall_mem_cons.mpr ⟨(pq5 2 rfl), List.forall_mem_cons.mpr ⟨(tq4 20 rfl), List.forall_mem_cons.mpr ⟨(tq4 21 rfl), List.forall_mem_cons.mpr ⟨(tq1 136 rfl), List.forall_mem_cons.mpr ⟨(tq1 137 rfl), List.forall_mem_cons.mpr ⟨(tq1 138 rfl), List.forall_mem_cons.mpr ⟨(tq1 139 rfl), List.forall_mem_cons.mpr ⟨(tq4 24 rfl), List.forall_mem_cons.mpr ⟨(tq4 25 rfl), List.forall_mem_cons.mpr ⟨(tq4 26 rfl), List.forall_mem_cons.mpr ⟨(tq4 27 rfl), List.forall_mem_cons.mpr ⟨(tq4 28 rfl), List.forall_mem_cons.mpr ⟨(tq1 140 rfl), List.forall_mem_cons.mpr ⟨(tq1 141 rfl), List.forall_mem_cons.mpr ⟨(tq1 142 rfl), List.forall_mem_cons.mpr ⟨(tq1 143 rfl), List.forall_mem_cons.mpr ⟨(tq1 146 rfl), List.forall_mem_cons.mpr ⟨(pq0 10 rfl), fun _ h => absurd h List.not_mem_nil⟩⟩⟩⟩⟩⟩⟩⟩⟩⟩⟩⟩⟩⟩⟩⟩⟩⟩⟩⟩⟩⟩⟩⟩
theorem wr14 : ∀ w ∈ wsL_law_r14, w ∈ lw_tbl := List.forall_mem_cons.mpr ⟨(tq1 147 rfl), List.forall_mem_cons.mpr ⟨(tq1 150 rfl), List.forall_mem_cons.mpr ⟨(pq0 11 rfl), List.forall_mem_cons.mpr ⟨(tq1 151 rfl), List.forall_mem_cons.mpr ⟨(tq4 29 rfl), List.forall_mem_cons.mpr ⟨(tq4 30 rfl), List.forall_mem_cons.mpr ⟨(tq4 31 rfl), List.forall_mem_cons.mpr ⟨(tq4 32 rfl), List.forall_mem_cons.mpr ⟨(tq1 152 rfl), List.forall_mem_cons.mpr ⟨(tq1 153 rfl), List.forall_mem_cons.mpr ⟨(tq1 154 rfl), List.forall_mem_cons.mpr ⟨(tq1 155 rfl), List.forall_mem_cons.mpr ⟨(tq1 156 rfl), List.forall_mem_cons.mpr ⟨(tq1 158 rfl), List.forall_mem_cons.mpr ⟨(pq0 12 rfl), List.forall_mem_cons.mpr ⟨(tq1 159 rfl), List.forall_mem_cons.mpr ⟨(tq1 162 rfl), List.forall_mem_cons.mpr ⟨(pq0 13 rfl), List.forall_mem_cons.mpr ⟨(tq1 163 rfl), List.forall_mem_cons.mpr ⟨(tq4 33 rfl), List.forall_mem_cons.mpr ⟨(tq4 34 rfl), List.forall_mem_cons.mpr ⟨(tq4 35 rfl), List.forall_mem_cons.mpr ⟨(tq4 36 rfl), List.forall_mem_cons.mpr ⟨(tq4 37 rfl), fun _ h => absurd h List.not_mem_nil⟩⟩⟩⟩⟩⟩⟩⟩⟩⟩⟩⟩⟩⟩⟩⟩⟩⟩⟩⟩⟩⟩⟩⟩
theorem wr15 : ∀ w ∈ wsL_law_r15, w ∈ lw_tbl := List.forall_mem_cons.mpr ⟨(tq4 38 rfl), List.forall_mem_cons.mpr ⟨(tq4 39 rfl), List.forall_mem_cons.mpr ⟨(tq4 40 rfl), List.forall_mem_cons.mpr ⟨(tq1 164 rfl), List.forall_mem_cons.mpr ⟨(tq1 165 rfl), List.forall_mem_cons.mpr ⟨(tq1 166 rfl), List.forall_mem_cons.mpr ⟨(tq1 167 rfl), List.forall_mem_cons.mpr ⟨(tq1 170 rfl), List.forall_mem_cons.mpr ⟨(pq0 14 rfl), List.forall_mem_cons.mpr ⟨(tq1 171 rfl), List.forall_mem_cons.mpr ⟨(tq4 41 rfl), List.forall_mem_cons.mpr ⟨(tq4 42 rfl), List.forall_mem_cons.mpr ⟨(tq4 43 rfl), List.forall_mem_cons.mpr ⟨(tq4 44 rfl), List.forall_mem_cons.mpr ⟨(tq4 45 rfl), List.forall_mem_cons.mpr ⟨(tq4 46 rfl), List.forall_mem_cons.mpr ⟨(tq4 47 rfl), List.forall_mem_cons.mpr ⟨(tq4 48 rfl), List.forall_mem_cons.mpr ⟨(tq3 78 rfl), List.forall_mem_cons.mpr ⟨(tq1 172 rfl), List.forall_mem_cons.mpr ⟨(tq1 173 rfl), List.forall_mem_cons.mpr ⟨(tq1 174 rfl), List.forall_mem_cons.mpr ⟨(tq1 175 rfl), List.forall_mem_cons.mpr ⟨(tq1 176 rfl), fun _ h => absurd h List.not_mem_nil⟩⟩⟩⟩⟩⟩⟩⟩⟩⟩⟩⟩⟩⟩⟩⟩⟩⟩⟩⟩⟩⟩⟩⟩
theorem wr16 : ∀ w ∈ wsL_law_r16, w ∈ lw_tbl := List.forall_mem_cons.mpr ⟨(tq1 178 rfl), List.forall_mem_cons.mpr ⟨(pq0 15 rfl), List.forall_mem_cons.mpr ⟨(tq1 179 rfl), List.forall_mem_cons.mpr ⟨(tq1 180 rfl), List.forall_mem_cons.mpr ⟨(tq1 182 rfl), List.forall_mem_cons.mpr ⟨(pq1 0 rfl), List.forall_mem_cons.mpr ⟨(tq1 183 rfl), List.forall_mem_cons.mpr ⟨(tq1 186 rfl), List.forall_mem_cons.mpr ⟨(pq1 1 rfl), List.forall_mem_cons.mpr ⟨(tq1 187 rfl), List.forall_mem_cons.mpr ⟨(tq1 190 rfl), List.forall_mem_cons.mpr ⟨(pq1 2 rfl), List.forall_mem_cons.mpr ⟨(tq1 191 rfl), List.forall_mem_cons.mpr ⟨(tq1 194 rfl), List.forall_mem_cons.mpr ⟨(pq1 3 rfl), List.forall_mem_cons.mpr ⟨(tq1 195 rfl), List.forall_mem_cons.mpr ⟨(tq4 49 rfl), List.forall_mem_cons.mpr ⟨(tq4 50 rfl), List.forall_mem_cons.mpr ⟨(tq4 51 rfl), List.forall_mem_cons.mpr ⟨(tq4 52 rfl), List.forall_mem_cons.mpr ⟨(tq4 53 rfl), List.forall_mem_cons.mpr ⟨(tq4 55 rfl), List.forall_mem_cons.mpr ⟨(pq5 3 rfl), List.forall_mem_cons.mpr ⟨(tq4 56 rfl), fun _ h => absurd h List.not_mem_nil⟩⟩⟩⟩⟩⟩⟩⟩⟩⟩⟩⟩⟩⟩⟩⟩⟩⟩⟩⟩⟩⟩⟩⟩
theorem wr17 : ∀ w ∈ wsL_law_r17, w ∈ lw_tbl := List.forall_mem_cons.mpr ⟨(tq4 57 rfl), List.forall_mem_cons.mpr ⟨(tq4 59 rfl), List.forall_mem_cons.mpr ⟨(pq5 4 rfl), List.forall_mem_cons.mpr ⟨(tq4 60 rfl), List.forall_mem_cons.mpr ⟨(tq3 90 rfl), List.forall_mem_cons.mpr ⟨(tq4 61 rfl), List.forall_mem_cons.mpr ⟨(tq4 63 rfl), List.forall_mem_cons.mpr ⟨(pq5 5 rfl), List.forall_mem_cons.mpr ⟨(tq4 64 rfl), List.forall_mem_cons.mpr ⟨(tq1 196 rfl), List.forall_mem_cons.mpr ⟨(tq1 197 rfl), List.forall_mem_cons.mpr ⟨(tq1 198 rfl), List.forall_mem_cons.mpr ⟨(tq1 199 rfl), List.forall_mem_cons.mpr ⟨(tq1 202 rfl), List.forall_mem_cons.mpr ⟨(pq1 4 rfl), List.forall_mem_cons.mpr ⟨(tq1 203 rfl), List.forall_mem_cons.mpr ⟨(tq1 204 rfl), List.forall_mem_cons.mpr ⟨(tq1 206 rfl), List.forall_mem_cons.mpr ⟨(pq1 5 rfl), List.forall_mem_cons.mpr ⟨(tq1 207 rfl), List.forall_mem_cons.mpr ⟨(tq4 65 rfl), List.forall_mem_cons.mpr ⟨(tq4 66 rfl), List.forall_mem_cons.mpr ⟨(tq4 67 rfl), List.forall_mem_cons.mpr ⟨(tq4 68 rfl), fun _ h => absurd h List.not_mem_nil⟩⟩⟩⟩⟩⟩⟩⟩⟩⟩⟩⟩⟩⟩⟩⟩⟩⟩⟩⟩⟩⟩⟩⟩
theorem wr18 : ∀ w ∈ wsL_law_r18, w ∈ lw_tbl := List.forall_mem_cons.mpr ⟨(tq4 69 rfl), List.forall_mem_cons.mpr ⟨(tq4 71 rfl), List.forall_mem_cons.mpr ⟨(pq5 6 rfl), List.forall_mem_cons.mpr ⟨(tq4 72 rfl), List.forall_mem_cons.mpr ⟨(tq1 208 rfl), List.forall_mem_cons.mpr ⟨(tq1 209 rfl), List.forall_mem_cons.mpr ⟨(tq1 210 rfl), List.forall_mem_cons.mpr ⟨(tq1 211 rfl), List.forall_mem_cons.mpr ⟨(tq1 216 rfl), List.forall_mem_cons.mpr ⟨(tq1 212 rfl), List.forall_mem_cons.mpr ⟨(tq1 214 rfl), List.forall_mem_cons.mpr ⟨(pq1 6 rfl), List.forall_mem_cons.mpr ⟨(tq1 215 rfl), List.forall_mem_cons.mpr ⟨(tq1 219 rfl), List.forall_mem_cons.mpr ⟨(pq1 7 rfl), List.forall_mem_cons.mpr ⟨(tq1 220 rfl), List.forall_mem_cons.mpr ⟨(tq4 73 rfl), List.forall_mem_cons.mpr ⟨(tq4 74 rfl), List.forall_mem_cons.mpr ⟨(tq4 75 rfl), List.forall_mem_cons.mpr ⟨(tq4 76 rfl), List.forall_mem_cons.mpr ⟨(tq4 77 rfl), List.forall_mem_cons.mpr ⟨(tq4 78 rfl), List.forall_mem_cons.mpr ⟨(tq4 79 rfl), List.forall_mem_cons.mpr ⟨(tq4 80 rfl), fun _ h => absurd h List.not_mem_nil⟩⟩⟩⟩⟩⟩⟩⟩⟩⟩⟩⟩⟩⟩⟩⟩⟩⟩⟩⟩⟩⟩⟩⟩
theorem wr19 : ∀ w ∈ wsL_law_r19, w ∈ lw_tbl := List.forall_mem_cons.mpr ⟨(tq1 221 rfl), List.forall_mem_cons.mpr ⟨(tq1 222 rfl), List.forall_mem_cons.mpr ⟨(tq1 223 rfl), List.forall_mem_cons.mpr ⟨(tq1 224 rfl), List.forall_mem_cons.mpr ⟨(tq1 225 rfl), List.forall_mem_cons.mpr ⟨(tq4 81 rfl), List.forall_mem_cons.mpr ⟨(tq4 82 rfl), List.forall_mem_cons.mpr ⟨(tq4 83 rfl), List.forall_mem_cons.mpr ⟨(tq4 84 rfl), List.forall_mem_cons.mpr ⟨(tq4 85 rfl), List.forall_mem_cons.mpr ⟨(tq4 86 rfl), List.forall_mem_cons.mpr ⟨(tq1 227 rfl), List.forall_mem_cons.mpr ⟨(tq1 228 rfl), List.forall_mem_cons.mpr ⟨(tq1 229 rfl), List.forall_mem_cons.mpr ⟨(tq1 230 rfl), List.forall_mem_cons.mpr ⟨(tq1 233 rfl), List.forall_mem_cons.mpr ⟨(pq1 8 rfl), List.forall_mem_cons.mpr ⟨(tq1 234 rfl), List.forall_mem_cons.mpr ⟨(tq4 87 rfl), List.forall_mem_cons.mpr ⟨(tq4 88 rfl), List.forall_mem_cons.mpr ⟨(tq4 89 rfl), List.forall_mem_cons.mpr ⟨(tq4 90 rfl), List.forall_mem_cons.mpr ⟨(tq1 235 rfl), List.forall_mem_cons.mpr ⟨(tq1 236 rfl), fun _ h => absurd h List.not_mem_nil⟩⟩⟩⟩⟩⟩⟩⟩⟩⟩⟩⟩⟩⟩⟩⟩⟩⟩⟩⟩⟩⟩⟩⟩
theorem wr20 : ∀ w ∈ wsL_law_r20, w ∈ lw_tbl := List.forall_mem_cons.mpr ⟨(tq1 237 rfl), List.forall_mem_cons.mpr ⟨(tq1 238 rfl), List.forall_mem_cons.mpr ⟨(tq1 239 rfl), List.forall_mem_cons.mpr ⟨(tq2 1 rfl), List.forall_mem_cons.mpr ⟨(pq1 9 rfl), List.forall_mem_cons.mpr ⟨(tq2 2 rfl), List.forall_mem_cons.mpr ⟨(tq2 3 rfl), List.forall_mem_cons.mpr ⟨(tq2 4 rfl), List.forall_mem_cons.mpr ⟨(tq2 5 rfl), List.forall_mem_cons.mpr ⟨(tq2 8 rfl), List.forall_mem_cons.mpr ⟨(pq1 10 rfl), List.forall_mem_cons.mpr ⟨(tq2 9 rfl), List.forall_mem_cons.mpr ⟨(tq4 91 rfl), List.forall_mem_cons.mpr ⟨(tq4 92 rfl), List.forall_mem_cons.mpr ⟨(tq4 93 rfl), List.forall_mem_cons.mpr ⟨(tq4 94 rfl), List.forall_mem_cons.mpr ⟨(tq4 99 rfl), List.forall_mem_cons.mpr ⟨(tq4 95 rfl), List.forall_mem_cons.mpr ⟨(tq4 97 rfl), List.forall_mem_cons.mpr ⟨(pq5 7 rfl), List.forall_mem_cons.mpr ⟨(tq4 98 rfl), List.forall_mem_cons.mpr ⟨(tq2 10 rfl), List.forall_mem_cons.mpr ⟨(tq2 11 rfl), List.forall_mem_cons.mpr ⟨(tq2 12 rfl), fun _ h => absurd h List.not_mem_nil⟩⟩⟩⟩⟩⟩⟩⟩⟩⟩⟩⟩⟩⟩⟩⟩⟩⟩⟩⟩⟩⟩⟩⟩
theorem wr21 : ∀ w ∈ wsL_law_r21, w ∈ lw_tbl := List.forall_mem_cons.mpr ⟨(tq2 13 rfl), List.forall_mem_cons.mpr ⟨(tq2 16 rfl), List.forall_mem_cons.mpr ⟨(pq1 11 rfl), List.forall_mem_cons.mpr ⟨(tq2 17 rfl), List.forall_mem_cons.mpr ⟨(tq2 20 rfl), List.forall_mem_cons.mpr ⟨(pq1 12 rfl), List.forall_mem_cons.mpr ⟨(tq2 21 rfl), List.forall_mem_cons.mpr ⟨(tq2 22 rfl), List.forall_mem_cons.mpr ⟨(tq4 100 rfl), List.forall_mem_cons.mpr ⟨(tq4 101 rfl), List.forall_mem_cons.mpr ⟨(tq4 102 rfl), List.forall_mem_cons.mpr ⟨(tq4 103 rfl), List.forall_mem_cons.mpr ⟨(tq4 104 rfl), List.forall_mem_cons.mpr ⟨(tq4 106 rfl), List.forall_mem_cons.mpr ⟨(pq5 8 rfl), List.forall_mem_cons.mpr ⟨(tq4 107 rfl), List.forall_mem_cons.mpr ⟨(tq2 23 rfl), List.forall_mem_cons.mpr ⟨(tq2 24 rfl), List.forall_mem_cons.mpr ⟨(tq2 25 rfl), List.forall_mem_cons.mpr ⟨(tq2 26 rfl), List.forall_mem_cons.mpr ⟨(tq4 108 rfl), List.forall_mem_cons.mpr ⟨(tq4 109 rfl), List.forall_mem_cons.mpr ⟨(tq4 110 rfl), List.forall_mem_cons.mpr ⟨(tq4 111 rfl), fun _ h => absurd h List.not_mem_nil⟩⟩⟩⟩⟩⟩⟩⟩⟩⟩⟩⟩⟩⟩⟩⟩⟩⟩⟩⟩⟩⟩⟩⟩
theorem wr22 : ∀ w ∈ wsL_law_r22, w ∈ lw_tbl := List.forall_mem_cons.mpr ⟨(tq2 27 rfl), List.forall_mem_cons.mpr ⟨(tq2 28 rfl), List.forall_mem_cons.mpr ⟨(tq2 29 rfl), List.forall_mem_cons.mpr ⟨(tq2 30 rfl), List.forall_mem_cons.mpr ⟨(tq2 31 rfl), List.forall_mem_cons.mpr ⟨(tq2 32 rfl), List.forall_mem_cons.mpr ⟨(tq4 112 rfl), List.forall_mem_cons.mpr ⟨(tq4 113 rfl), List.forall_mem_cons.mpr ⟨(tq4 114 rfl), List.forall_mem_cons.mpr ⟨(tq4 115 rfl), List.forall_mem_cons.mpr ⟨(tq4 116 rfl), List.forall_mem_cons.mpr ⟨(tq4 117 rfl), List.forall_mem_cons.mpr ⟨(tq2 33 rfl), List.forall_mem_cons.mpr ⟨(tq2 34 rfl), List.forall_mem_cons.mpr ⟨(tq2 35 rfl), List.forall_mem_cons.mpr ⟨(tq2 36 rfl), List.forall_mem_cons.mpr ⟨(tq2 39 rfl), List.forall_mem_cons.mpr ⟨(pq1 13 rfl), List.forall_mem_cons.mpr ⟨(tq2 40 rfl), List.forall_mem_cons.mpr ⟨(tq2 41 rfl), List.forall_mem_cons.mpr ⟨(tq2 43 rfl), List.forall_mem_cons.mpr ⟨(pq1 14 rfl), List.forall_mem_cons.mpr ⟨(tq2 44 rfl), List.forall_mem_cons.mpr ⟨(tq2 45 rfl), fun _ h => absurd h List.not_mem_nil⟩⟩⟩⟩⟩⟩⟩⟩⟩⟩⟩⟩⟩⟩⟩⟩⟩⟩⟩⟩⟩⟩⟩⟩
theorem wr23 : ∀ w ∈ wsL_law_r23, w ∈ lw_tbl := List.forall_mem_cons.mpr ⟨(tq2 47 rfl), List.forall_mem_cons.mpr ⟨(pq1 15 rfl), List.forall_mem_cons.mpr ⟨(tq2 48 rfl), List.forall_mem_cons.mpr ⟨(tq4 118 rfl), List.forall_mem_cons.mpr ⟨(tq4 119 rfl), List.forall_mem_cons.mpr ⟨(tq4 120 rfl), List.forall_mem_cons.mpr ⟨(tq4 121 rfl), List.forall_mem_cons.mpr ⟨(tq4 122 rfl), List.forall_mem_cons.mpr ⟨(tq4 124 rfl), List.forall_mem_cons.mpr ⟨(pq5 9 rfl), List.forall_mem_cons.mpr ⟨(tq4 125 rfl), List.forall_mem_cons.mpr ⟨(tq2 49 rfl), List.forall_mem_cons.mpr ⟨(tq2 50 rfl), List.forall_mem_cons.mpr ⟨(tq2 51 rfl), List.forall_mem_cons.mpr ⟨(tq2 52 rfl), List.forall_mem_cons.mpr ⟨(tq2 53 rfl), List.forall_mem_cons.mpr ⟨(tq2 85 rfl), List.forall_mem_cons.mpr ⟨(tq2 56 rfl), List.forall_mem_cons.mpr ⟨(pq2 0 rfl), List.forall_mem_cons.mpr ⟨(tq2 57 rfl), List.forall_mem_cons.mpr ⟨(tq2 64 rfl), List.forall_mem_cons.mpr ⟨(tq2 65 rfl), List.forall_mem_cons.mpr ⟨(tq2 66 rfl), List.forall_mem_cons.mpr ⟨(tq2 58 rfl), fun _ h => absurd h List.not_mem_nil⟩⟩⟩⟩⟩⟩⟩⟩⟩⟩⟩⟩⟩⟩⟩⟩⟩⟩⟩⟩⟩⟩⟩⟩
theorem wr24 : ∀ w ∈ wsL_law_r24, w ∈ lw_tbl := List.forall_mem_cons.mpr ⟨(tq2 60 rfl), List.forall_mem_cons.mpr ⟨(pq2 1 rfl), List.forall_mem_cons.mpr ⟨(tq2 61 rfl), List.forall_mem_cons.mpr ⟨(tq2 67 rfl), List.forall_mem_cons.mpr ⟨(tq2 69 rfl), List.forall_mem_cons.mpr ⟨(pq2 2 rfl), List.forall_mem_cons.mpr ⟨(tq2 70 rfl), List.forall_mem_cons.mpr ⟨(tq2 71 rfl), List.forall_mem_cons.mpr ⟨(tq2 73 rfl), List.forall_mem_cons.mpr ⟨(pq2 3 rfl), List.forall_mem_cons.mpr ⟨(tq2 74 rfl), List.forall_mem_cons.mpr ⟨(tq2 77 rfl), List.forall_mem_cons.mpr ⟨(pq2 4 rfl), List.forall_mem_cons.mpr ⟨(tq2 78 rfl), List.forall_mem_cons.mpr ⟨(tq2 83 rfl), List.forall_mem_cons.mpr ⟨(pq2 5 rfl), List.forall_mem_cons.mpr ⟨(tq2 84 rfl), List.forall_mem_cons.mpr ⟨(tq2 88 rfl), List.forall_mem_cons.mpr ⟨(pq2 6 rfl), List.forall_mem_cons.mpr ⟨(tq2 89 rfl), List.forall_mem_cons.mpr ⟨(tq2 92 rfl), List.forall_mem_cons.mpr ⟨(pq2 7 rfl), List.forall_mem_cons.mpr ⟨(tq2 93 rfl), List.forall_mem_cons.mpr ⟨(tq4 126 rfl), fun _ h => absurd h List.not_mem_nil⟩⟩⟩⟩⟩⟩⟩⟩⟩⟩⟩⟩⟩⟩⟩⟩⟩⟩⟩⟩⟩⟩⟩⟩
theorem wr25 : ∀ w ∈ wsL_law_r25, w ∈ lw_tbl := List.forall_mem_cons.mpr ⟨(tq4 127 rfl), List.forall_mem_cons.mpr ⟨(tq4 128 rfl), List.forall_mem_cons.mpr ⟨(tq4 129 rfl), List.forall_mem_cons.mpr ⟨(tq4 130 rfl), List.forall_mem_cons.mpr ⟨(tq3 104 rfl), List.forall_mem_cons.mpr ⟨(tq4 131 rfl), List.forall_mem_cons.mpr ⟨(tq4 133 rfl), List.forall_mem_cons.mpr ⟨(pq5 10 rfl), List.forall_mem_cons.mpr ⟨(tq4 134 rfl), List.forall_mem_cons.mpr ⟨(tq3 105 rfl), List.forall_mem_cons.mpr ⟨(tq4 135 rfl), List.forall_mem_cons.mpr ⟨(tq4 137 rfl), List.forall_mem_cons.mpr ⟨(pq5 11 rfl), List.forall_mem_cons.mpr ⟨(tq4 138 rfl), List.forall_mem_cons.mpr ⟨(tq4 139 rfl), List.forall_mem_cons.mpr ⟨(tq4 141 rfl), List.forall_mem_cons.mpr ⟨(pq5 12 rfl), List.forall_mem_cons.mpr ⟨(tq4 142 rfl), List.forall_mem_cons.mpr ⟨(tq4 143 rfl), List.forall_mem_cons.mpr ⟨(tq4 145 rfl), List.forall_mem_cons.mpr ⟨(pq5 13 rfl), List.forall_mem_cons.mpr ⟨(tq4 146 rfl), List.forall_mem_cons.mpr ⟨(tq4 147 rfl), List.forall_mem_cons.mpr ⟨(tq4 148 rfl), fun _ h => absurd h List.not_mem_nil⟩⟩⟩⟩⟩⟩⟩⟩⟩⟩⟩⟩⟩⟩⟩⟩⟩⟩⟩⟩⟩⟩⟩⟩
theorem wr26 : ∀ w ∈ wsL_law_r26, w ∈ lw_tbl := List.forall_mem_cons.mpr ⟨(tq4 149 rfl), List.forall_mem_cons.mpr ⟨(tq2 94 rfl), List.forall_mem_cons.mpr ⟨(tq2 95 rfl), List.forall_mem_cons.mpr ⟨(tq2 96 rfl), List.forall_mem_cons.mpr ⟨(tq2 97 rfl), List.forall_mem_cons.mpr ⟨(tq2 98 rfl), List.forall_mem_cons.mpr ⟨(tq2 99 rfl), List.forall_mem_cons.mpr ⟨(tq2 103 rfl), List.forall_mem_cons.mpr ⟨(pq2 8 rfl), List.forall_mem_cons.mpr ⟨(tq2 104 rfl), List.forall_mem_cons.mpr ⟨(tq2 105 rfl), List.forall_mem_cons.mpr ⟨(tq2 106 rfl), List.forall_mem_cons.mpr ⟨(tq2 107 rfl), List.forall_mem_cons.mpr ⟨(tq2 108 rfl), List.forall_mem_cons.mpr ⟨(tq2 109 rfl), List.forall_mem_cons.mpr ⟨(tq4 150 rfl), List.forall_mem_cons.mpr ⟨(tq4 151 rfl), List.forall_mem_cons.mpr ⟨(tq4 152 rfl), List.forall_mem_cons.mpr ⟨(tq4 153 rfl), List.forall_mem_cons.mpr ⟨(tq4 154 rfl), List.forall_mem_cons.mpr ⟨(tq4 155 rfl), List.forall_mem_cons.mpr ⟨(tq4 157 rfl), List.forall_mem_cons.mpr ⟨(pq5 14 rfl), List.forall_mem_cons.mpr ⟨(tq4 158 rfl), fun _ h => absurd h List.not_mem_nil⟩⟩⟩⟩⟩⟩⟩⟩⟩⟩⟩⟩⟩⟩⟩⟩⟩⟩⟩⟩⟩⟩⟩⟩
theorem wr27 : ∀ w ∈ wsL_law_r27, w ∈ lw_tbl := List.forall_mem_cons.mpr ⟨(tq4 159 rfl), List.forall_mem_cons.mpr ⟨(tq4 161 rfl), List.forall_mem_cons.mpr ⟨(pq5 15 rfl), List.forall_mem_cons.mpr ⟨(tq4 162 rfl), List.forall_mem_cons.mpr ⟨(tq4 163 rfl), List.forall_mem_cons.mpr ⟨(tq2 110 rfl), List.forall_mem_cons.mpr ⟨(tq2 111 rfl), List.forall_mem_cons.mpr ⟨(tq2 112 rfl), List.forall_mem_cons.mpr ⟨(tq2 113 rfl), List.forall_mem_cons.mpr ⟨(tq2 114 rfl), List.forall_mem_cons.mpr ⟨(tq2 116 rfl), List.forall_mem_cons.mpr ⟨(pq2 9 rfl), List.forall_mem_cons.mpr ⟨(tq2 117 rfl), List.forall_mem_cons.mpr ⟨(tq2 118 rfl), List.forall_mem_cons.mpr ⟨(tq2 120 rfl), List.forall_mem_cons.mpr ⟨(pq2 10 rfl), List.forall_mem_cons.mpr ⟨(tq2 121 rfl), List.forall_mem_cons.mpr ⟨(tq4 164 rfl), List.forall_mem_cons.mpr ⟨(tq4 165 rfl), List.forall_mem_cons.mpr ⟨(tq4 166 rfl), List.forall_mem_cons.mpr ⟨(tq4 167 rfl), List.forall_mem_cons.mpr ⟨(tq4 168 rfl), List.forall_mem_cons.mpr ⟨(tq4 170 rfl), List.forall_mem_cons.mpr ⟨(pq6 0 rfl), fun _ h => absurd h List.not_mem_nil⟩⟩⟩⟩⟩⟩⟩⟩⟩⟩⟩⟩⟩⟩⟩⟩⟩⟩⟩⟩⟩⟩⟩⟩
theorem wr28 : ∀ w ∈ wsL_law_r28, w ∈ lw_tbl := List.forall_mem_cons.mpr ⟨(tq4 171 rfl), List.forall_mem_cons.mpr ⟨(tq4 172 rfl), List.forall_mem_cons.mpr ⟨(tq4 174 rfl), List.forall_mem_cons.mpr ⟨(pq6 1 rfl), List.forall_mem_cons.mpr ⟨(tq4 175 rfl), List.forall_mem_cons.mpr ⟨(tq2 122 rfl), List.forall_mem_cons.mpr ⟨(tq2 123 rfl), List.forall_mem_cons.mpr ⟨(tq2 124 rfl), List.forall_mem_cons.mpr ⟨(tq2 125 rfl), List.forall_mem_cons.mpr ⟨(tq2 126 rfl), List.forall_mem_cons.mpr ⟨(tq2 128 rfl), List.forall_mem_cons.mpr ⟨(pq2 11 rfl), List.forall_mem_cons.mpr ⟨(tq2 129 rfl), List.forall_mem_cons.mpr ⟨(tq2 130 rfl), List.forall_mem_cons.mpr ⟨(tq2 132 rfl), List.forall_mem_cons.mpr ⟨(pq2 12 rfl), List.forall_mem_cons.mpr ⟨(tq2 133 rfl), List.forall_mem_cons.mpr ⟨(tq2 134 rfl), List.forall_mem_cons.mpr ⟨(tq2 136 rfl), List.forall_mem_cons.mpr ⟨(pq2 13 rfl), List.forall_mem_cons.mpr ⟨(tq2 137 rfl), List.forall_mem_cons.mpr ⟨(tq2 140 rfl), List.forall_mem_cons.mpr ⟨(pq2 14 rfl), List.forall_mem_cons.mpr ⟨(tq2 141 rfl), fun _ h => absurd h List.not_mem_nil⟩⟩⟩⟩⟩⟩⟩⟩⟩⟩⟩⟩⟩⟩⟩⟩⟩⟩⟩⟩⟩⟩⟩⟩
theorem wr29 : ∀ w ∈ wsL_law_r29, w ∈ lw_tbl := List.forall_mem_cons.mpr ⟨(tq2 144 rfl), List.forall_mem_cons.mpr ⟨(pq2 15 rfl), List.forall_mem_cons.mpr ⟨(tq2 145 rfl), List.forall_mem_cons.mpr ⟨(tq2 148 rfl), List.forall_mem_cons.mpr ⟨(pq3 0 rfl), List.forall_mem_cons.mpr ⟨(tq2 149 rfl), List.forall_mem_cons.mpr ⟨(tq2 158 rfl), List.forall_mem_cons.mpr ⟨(tq2 160 rfl), List.forall_mem_cons.mpr ⟨(tq2 159 rfl), List.forall_mem_cons.mpr ⟨(tq0 12 rfl), List.forall_mem_cons.mpr ⟨(tq2 150 rfl), List.forall_mem_cons.mpr ⟨(tq2 152 rfl), List.forall_mem_cons.mpr ⟨(pq3 1 rfl), List.forall_mem_cons.mpr ⟨(tq2 153 rfl), List.forall_mem_cons.mpr ⟨(tq2 154 rfl), List.forall_mem_cons.mpr ⟨(tq2 156 rfl), List.forall_mem_cons.mpr ⟨(pq3 2 rfl), List.forall_mem_cons.mpr ⟨(tq2 157 rfl), List.forall_mem_cons.mpr ⟨(tq2 161 rfl), List.forall_mem_cons.mpr ⟨(tq2 163 rfl), List.forall_mem_cons.mpr ⟨(pq3 3 rfl), List.forall_mem_cons.mpr ⟨(tq2 164 rfl), List.forall_mem_cons.mpr ⟨(tq2 165 rfl), List.forall_mem_cons.mpr ⟨(tq2 167 rfl), fun _ h => absurd h List.not_mem_nil⟩⟩⟩⟩⟩⟩⟩⟩⟩⟩⟩⟩⟩⟩⟩⟩⟩⟩⟩⟩⟩⟩⟩⟩
theorem wr30 : ∀ w ∈ wsL_law_r30, w ∈ lw_tbl := List.forall_mem_cons.mpr ⟨(pq3 4 rfl), List.forall_mem_cons.mpr ⟨(tq2 168 rfl), List.forall_mem_cons.mpr ⟨(tq2 171 rfl), List.forall_mem_cons.mpr ⟨(pq3 5 rfl), List.forall_mem_cons.mpr ⟨(tq2 172 rfl), List.forall_mem_cons.mpr ⟨(tq4 176 rfl), List.forall_mem_cons.mpr ⟨(tq4 177 rfl), List.forall_mem_cons.mpr ⟨(tq4 178 rfl), List.forall_mem_cons.mpr ⟨(tq4 179 rfl), List.forall_mem_cons.mpr ⟨(tq4 180 rfl), List.forall_mem_cons.mpr ⟨(tq4 182 rfl), List.forall_mem_cons.mpr ⟨(pq6 2 rfl), List.forall_mem_cons.mpr ⟨(tq4 183 rfl), List.forall_mem_cons.mpr ⟨(tq4 184 rfl), List.forall_mem_cons.mpr ⟨(tq4 186 rfl), List.forall_mem_cons.mpr ⟨(pq6 3 rfl), List.forall_mem_cons.mpr ⟨(tq4 187 rfl), List.forall_mem_cons.mpr ⟨(tq4 188 rfl), List.forall_mem_cons.mpr ⟨(tq4 190 rfl), List.forall_mem_cons.mpr ⟨(pq6 4 rfl), List.forall_mem_cons.mpr ⟨(tq4 191 rfl), List.forall_mem_cons.mpr ⟨(tq4 192 rfl), List.forall_mem_cons.mpr ⟨(tq4 194 rfl), List.forall_mem_cons.mpr ⟨(pq6 5 rfl), fun _ h => absurd h List.not_mem_nil⟩⟩⟩⟩⟩⟩⟩⟩⟩⟩⟩⟩⟩⟩⟩⟩⟩⟩⟩⟩⟩⟩⟩⟩
theorem wr31 : ∀ w ∈ wsL_law_r31, w ∈ lw_tbl := List.forall_mem_cons.mpr ⟨(tq4 195 rfl), List.forall_mem_cons.mpr ⟨(tq2 173 rfl), List.forall_mem_cons.mpr ⟨(tq2 174 rfl), List.forall_mem_cons.mpr ⟨(tq2 175 rfl), List.forall_mem_cons.mpr ⟨(tq2 176 rfl), List.forall_mem_cons.mpr ⟨(tq2 177 rfl), List.forall_mem_cons.mpr ⟨(tq2 198 rfl), List.forall_mem_cons.mpr ⟨(tq2 178 rfl), List.forall_mem_cons.mpr ⟨(tq2 180 rfl), List.forall_mem_cons.mpr ⟨(pq3 6 rfl), List.forall_mem_cons.mpr ⟨(tq2 181 rfl), List.forall_mem_cons.mpr ⟨(tq2 184 rfl), List.forall_mem_cons.mpr ⟨(pq3 7 rfl), List.forall_mem_cons.mpr ⟨(tq2 185 rfl), List.forall_mem_cons.mpr ⟨(tq2 186 rfl), List.forall_mem_cons.mpr ⟨(tq2 188 rfl), List.forall_mem_cons.mpr ⟨(pq3 8 rfl), List.forall_mem_cons.mpr ⟨(tq2 189 rfl), List.forall_mem_cons.mpr ⟨(tq2 192 rfl), List.forall_mem_cons.mpr ⟨(pq3 9 rfl), List.forall_mem_cons.mpr ⟨(tq2 193 rfl), List.forall_mem_cons.mpr ⟨(tq2 194 rfl), List.forall_mem_cons.mpr ⟨(tq2 195 rfl), List.forall_mem_cons.mpr ⟨(tq2 196 rfl), fun _ h => absurd h List.not_mem_nil⟩⟩⟩⟩⟩⟩⟩⟩⟩⟩⟩⟩⟩⟩⟩⟩⟩⟩⟩⟩⟩⟩⟩⟩
theorem wr32 : ∀ w ∈ wsL_law_r32, w ∈ lw_tbl := List.forall_mem_cons.mpr ⟨(tq2 197 rfl), List.forall_mem_cons.mpr ⟨(tq2 201 rfl), List.forall_mem_cons.mpr ⟨(pq3 10 rfl), List.forall_mem_cons.mpr ⟨(tq2 202 rfl), List.forall_mem_cons.mpr ⟨(tq4 196 rfl), List.forall_mem_cons.mpr ⟨(tq4 197 rfl), List.forall_mem_cons.mpr ⟨(tq4 198 rfl), List.forall_mem_cons.mpr ⟨(tq4 199 rfl), List.forall_mem_cons.mpr ⟨(tq4 200 rfl), List.forall_mem_cons.mpr ⟨(tq3 116 rfl), List.forall_mem_cons.mpr ⟨(tq3 117 rfl), List.forall_mem_cons.mpr ⟨(tq4 209 rfl), List.forall_mem_cons.mpr ⟨(tq4 201 rfl), List.forall_mem_cons.mpr ⟨(tq4 203 rfl), List.forall_mem_cons.mpr ⟨(pq6 6 rfl), List.forall_mem_cons.mpr ⟨(tq4 204 rfl), List.forall_mem_cons.mpr ⟨(tq4 205 rfl), List.forall_mem_cons.mpr ⟨(tq4 206 rfl), List.forall_mem_cons.mpr ⟨(tq4 207 rfl), List.forall_mem_cons.mpr ⟨(tq4 208 rfl), List.forall_mem_cons.mpr ⟨(tq2 203 rfl), List.forall_mem_cons.mpr ⟨(tq2 204 rfl), List.forall_mem_cons.mpr ⟨(tq2 205 rfl), List.forall_mem_cons.mpr ⟨(tq2 206 rfl), fun _ h => absurd h List.not_mem_nil⟩⟩⟩⟩⟩⟩⟩⟩⟩⟩⟩⟩⟩⟩⟩⟩⟩⟩⟩⟩⟩⟩⟩⟩
theorem wr33 : ∀ w ∈ wsL_law_r33, w ∈ lw_tbl := List.forall_mem_cons.mpr ⟨(tq2 209 rfl), List.forall_mem_cons.mpr ⟨(pq3 11 rfl), List.forall_mem_cons.mpr ⟨(tq2 210 rfl), List.forall_mem_cons.mpr ⟨(tq2 213 rfl), List.forall_mem_cons.mpr ⟨(pq3 12 rfl), List.forall_mem_cons.mpr ⟨(tq2 214 rfl), List.forall_mem_cons.mpr ⟨(tq2 217 rfl), List.forall_mem_cons.mpr ⟨(pq3 13 rfl), List.forall_mem_cons.mpr ⟨(tq2 218 rfl), List.forall_mem_cons.mpr ⟨(tq2 222 rfl), List.forall_mem_cons.mpr ⟨(pq3 14 rfl), List.forall_mem_cons.mpr ⟨(tq2 223 rfl), List.forall_mem_cons.mpr ⟨(tq2 226 rfl), List.forall_mem_cons.mpr ⟨(pq3 15 rfl), List.forall_mem_cons.mpr ⟨(tq2 227 rfl), List.forall_mem_cons.mpr ⟨(tq2 230 rfl), List.forall_mem_cons.mpr ⟨(pq4 0 rfl), List.forall_mem_cons.mpr ⟨(tq2 231 rfl), List.forall_mem_cons.mpr ⟨(tq2 234 rfl), List.forall_mem_cons.mpr ⟨(pq4 1 rfl), List.forall_mem_cons.mpr ⟨(tq2 235 rfl), List.forall_mem_cons.mpr ⟨(tq2 236 rfl), List.forall_mem_cons.mpr ⟨(tq2 239 rfl), List.forall_mem_cons.mpr ⟨(pq4 2 rfl), fun _ h => absurd h List.not_mem_nil⟩⟩⟩⟩⟩⟩⟩⟩⟩⟩⟩⟩⟩⟩⟩⟩⟩⟩⟩⟩⟩⟩⟩⟩
theorem wr34 : ∀ w ∈ wsL_law_r34, w ∈ lw_tbl := List.forall_mem_cons.mpr ⟨(tq3 0 rfl), List.forall_mem_cons.mpr ⟨(tq3 3 rfl), List.forall_mem_cons.mpr ⟨(pq4 3 rfl), List.forall_mem_cons.mpr ⟨(tq3 4 rfl), List.forall_mem_cons.mpr ⟨(tq3 5 rfl), List.forall_mem_cons.mpr ⟨(tq3 7 rfl), List.forall_mem_cons.mpr ⟨(pq4 4 rfl), List.forall_mem_cons.mpr ⟨(tq3 8 rfl), List.forall_mem_cons.mpr ⟨(tq3 9 rfl), List.forall_mem_cons.mpr ⟨(tq3 11 rfl), List.forall_mem_cons.mpr ⟨(pq4 5 rfl), List.forall_mem_cons.mpr ⟨(tq3 12 rfl), List.forall_mem_cons.mpr ⟨(tq3 13 rfl), List.forall_mem_cons.mpr ⟨(tq3 15 rfl), List.forall_mem_cons.mpr ⟨(pq4 6 rfl), List.forall_mem_cons.mpr ⟨(tq3 16 rfl), List.forall_mem_cons.mpr ⟨(tq3 19 rfl), List.forall_mem_cons.mpr ⟨(pq4 7 rfl), List.forall_mem_cons.mpr ⟨(tq3 20 rfl), List.forall_mem_cons.mpr ⟨(tq3 21 rfl), List.forall_mem_cons.mpr ⟨(tq3 23 rfl), List.forall_mem_cons.mpr ⟨(pq4 8 rfl), List.forall_mem_cons.mpr ⟨(tq3 24 rfl), List.forall_mem_cons.mpr ⟨(tq3 25 rfl), fun _ h => absurd h List.not_mem_nil⟩⟩⟩⟩⟩⟩⟩⟩⟩⟩⟩⟩⟩⟩⟩⟩⟩⟩⟩⟩⟩⟩⟩⟩
theorem wr35 : ∀ w ∈ wsL_law_r35, w ∈ lw_tbl := List.forall_mem_cons.mpr ⟨(tq3 27 rfl), List.forall_mem_cons.mpr ⟨(pq4 9 rfl), List.forall_mem_cons.mpr ⟨(tq3 28 rfl), List.forall_mem_cons.mpr ⟨(tq3 29 rfl), List.forall_mem_cons.mpr ⟨(tq3 31 rfl), List.forall_mem_cons.mpr ⟨(pq4 10 rfl), List.forall_mem_cons.mpr ⟨(tq3 32 rfl), List.forall_mem_cons.mpr ⟨(tq4 210 rfl), List.forall_mem_cons.mpr ⟨(tq4 211 rfl), List.forall_mem_cons.mpr ⟨(tq4 212 rfl), List.forall_mem_cons.mpr ⟨(tq4 213 rfl), List.forall_mem_cons.mpr ⟨(tq4 214 rfl), List.forall_mem_cons.mpr ⟨(tq4 216 rfl), List.forall_mem_cons.mpr ⟨(pq6 7 rfl), List.forall_mem_cons.mpr ⟨(tq4 217 rfl), List.forall_mem_cons.mpr ⟨(tq4 218 rfl), List.forall_mem_cons.mpr ⟨(tq4 220 rfl), List.forall_mem_cons.mpr ⟨(pq6 8 rfl), List.forall_mem_cons.mpr ⟨(tq4 221 rfl), List.forall_mem_cons.mpr ⟨(tq4 222 rfl), List.forall_mem_cons.mpr ⟨(tq4 224 rfl), List.forall_mem_cons.mpr ⟨(pq6 9 rfl), List.forall_mem_cons.mpr ⟨(tq4 225 rfl), List.forall_mem_cons.mpr ⟨(tq4 226 rfl), fun _ h => absurd h List.not_mem_nil⟩⟩⟩⟩⟩⟩⟩⟩⟩⟩⟩⟩⟩⟩⟩⟩⟩⟩⟩⟩⟩⟩⟩⟩
theorem wr36 : ∀ w ∈ wsL_law_r36, w ∈ lw_tbl := List.forall_mem_cons.mpr ⟨(tq4 228 rfl), List.forall_mem_cons.mpr ⟨(pq6 10 rfl), List.forall_mem_cons.mpr ⟨(tq4 229 rfl), List.forall_mem_cons.mpr ⟨(tq4 230 rfl), List.forall_mem_cons.mpr ⟨(tq4 232 rfl), List.forall_mem_cons.mpr ⟨(pq6 11 rfl), List.forall_mem_cons.mpr ⟨(tq4 233 rfl), List.forall_mem_cons.mpr ⟨(tq4 234 rfl), List.forall_mem_cons.mpr ⟨(tq4 236 rfl), List.forall_mem_cons.mpr ⟨(pq6 12 rfl), List.forall_mem_cons.mpr ⟨(tq4 237 rfl), List.forall_mem_cons.mpr ⟨(tq4 238 rfl), List.forall_mem_cons.mpr ⟨(tq5 0 rfl), List.forall_mem_cons.mpr ⟨(pq6 13 rfl), List.forall_mem_cons.mpr ⟨(tq5 1 rfl), List.forall_mem_cons.mpr ⟨(tq5 2 rfl), List.forall_mem_cons.mpr ⟨(tq5 4 rfl), List.forall_mem_cons.mpr ⟨(pq6 14 rfl), List.forall_mem_cons.mpr ⟨(tq5 5 rfl), List.forall_mem_cons.mpr ⟨(tq5 6 rfl), List.forall_mem_cons.mpr ⟨(tq5 8 rfl), List.forall_mem_cons.mpr ⟨(pq6 15 rfl), List.forall_mem_cons.mpr ⟨(tq5 9 rfl), List.forall_mem_cons.mpr ⟨(tq5 10 rfl), fun _ h => absurd h List.not_mem_nil⟩⟩⟩⟩⟩⟩⟩⟩⟩⟩⟩⟩⟩⟩⟩⟩⟩⟩⟩⟩⟩⟩⟩⟩
theorem wr37 : ∀ w ∈ wsL_law_r37, w ∈ lw_tbl := List.forall_mem_cons.mpr ⟨(tq5 12 rfl), List.forall_mem_cons.mpr ⟨(pq7 0 rfl), List.forall_mem_cons.mpr ⟨(tq5 13 rfl), List.forall_mem_cons.mpr ⟨(tq5 14 rfl), List.forall_mem_cons.mpr ⟨(tq5 16 rfl), List.forall_mem_cons.mpr ⟨(pq7 1 rfl), List.forall_mem_cons.mpr ⟨(tq5 17 rfl), List.forall_mem_cons.mpr ⟨(tq5 18 rfl), List.forall_mem_cons.mpr ⟨(tq5 20 rfl), List.forall_mem_cons.mpr ⟨(pq7 2 rfl), List.forall_mem_cons.mpr ⟨(tq5 21 rfl), List.forall_mem_cons.mpr ⟨(tq3 33 rfl), List.forall_mem_cons.mpr ⟨(tq3 34 rfl), List.forall_mem_cons.mpr ⟨(tq3 35 rfl), List.forall_mem_cons.mpr ⟨(tq3 36 rfl), List.forall_mem_cons.mpr ⟨(tq3 37 rfl), List.forall_mem_cons.mpr ⟨(tq3 40 rfl), List.forall_mem_cons.mpr ⟨(pq4 11 rfl), List.forall_mem_cons.mpr ⟨(tq3 41 rfl), List.forall_mem_cons.mpr ⟨(tq3 44 rfl), List.forall_mem_cons.mpr ⟨(pq4 12 rfl), List.forall_mem_cons.mpr ⟨(tq3 45 rfl), List.forall_mem_cons.mpr ⟨(tq3 46 rfl), List.forall_mem_cons.mpr ⟨(tq3 49 rfl), fun _ h => absurd h List.not_mem_nil⟩⟩⟩⟩⟩⟩⟩⟩⟩⟩⟩⟩⟩⟩⟩⟩⟩⟩⟩⟩⟩⟩⟩⟩
theorem wr38 : ∀ w ∈ wsL_law_r38, w ∈ lw_tbl := List.forall_mem_cons.mpr ⟨(pq4 13 rfl), List.forall_mem_cons.mpr ⟨(tq3 50 rfl), List.forall_mem_cons.mpr ⟨(tq5 22 rfl), List.forall_mem_cons.mpr ⟨(tq5 23 rfl), List.forall_mem_cons.mpr ⟨(tq5 24 rfl), List.forall_mem_cons.mpr ⟨(tq5 25 rfl), List.forall_mem_cons.mpr ⟨(tq3 101 rfl), List.forall_mem_cons.mpr ⟨(tq3 51 rfl), List.forall_mem_cons.mpr ⟨(tq3 52 rfl), List.forall_mem_cons.mpr ⟨(tq3 53 rfl), List.forall_mem_cons.mpr ⟨(tq3 54 rfl), List.forall_mem_cons.mpr ⟨(tq3 55 rfl), List.forall_mem_cons.mpr ⟨(tq3 57 rfl), List.forall_mem_cons.mpr ⟨(pq4 14 rfl), List.forall_mem_cons.mpr ⟨(tq3 58 rfl), List.forall_mem_cons.mpr ⟨(tq3 59 rfl), List.forall_mem_cons.mpr ⟨(tq3 61 rfl), List.forall_mem_cons.mpr ⟨(pq4 15 rfl), List.forall_mem_cons.mpr ⟨(tq3 62 rfl), List.forall_mem_cons.mpr ⟨(tq5 26 rfl), List.forall_mem_cons.mpr ⟨(tq5 27 rfl), List.forall_mem_cons.mpr ⟨(tq5 28 rfl), List.forall_mem_cons.mpr ⟨(tq5 29 rfl), fun _ h => absurd h List.not_mem_nil⟩⟩⟩⟩⟩⟩⟩⟩⟩⟩⟩⟩⟩⟩⟩⟩⟩⟩⟩⟩⟩⟩⟩
theorem wf8 : ∀ w ∈ wsX80, w ∈ lw_tbl := by
  intro w hw
  obtain ⟨k, hk, rfl⟩ := List.mem_map.mp hw
  have hk := List.mem_range.mp hk
  rcases (show k = 0 ∨ k = 1 ∨ k = 2 ∨ k = 3 ∨ k = 4 ∨ k = 5 ∨ k = 6 ∨ k = 7 ∨ k = 8 ∨ k = 9 ∨ k = 10 by omega) with rfl | rfl | rfl | rfl | rfl | rfl | rfl | rfl | rfl | rfl | rfl
  · exact (tq1 32 rfl)
  · exact (tq1 34 rfl)
  · exact (tq1 36 rfl)
  · exact (tq1 38 rfl)
  · exact (tq1 40 rfl)
  · exact (tq1 42 rfl)
  · exact (tq1 44 rfl)
  · exact (tq1 46 rfl)
  · exact (tq1 48 rfl)
  · exact (tq1 50 rfl)
  · exact (tq1 52 rfl)
theorem wf9 : ∀ w ∈ wsX90, w ∈ lw_tbl := by
  intro w hw
  obtain ⟨k, hk, rfl⟩ := List.mem_map.mp hw
  have hk := List.mem_range.mp hk
  rcases (show k = 0 ∨ k = 1 ∨ k = 2 ∨ k = 3 ∨ k = 4 ∨ k = 5 ∨ k = 6 ∨ k = 7 ∨ k = 8 ∨ k = 9 ∨ k = 10 ∨ k = 11 ∨ k = 12 ∨ k = 13 ∨ k = 14 ∨ k = 15 ∨ k = 16 ∨ k = 17 ∨ k = 18 ∨ k = 19 ∨ k = 20 ∨ k = 21 ∨ k = 22 ∨ k = 23 ∨ k = 24 ∨ k = 25 ∨ k = 26 ∨ k = 27 ∨ k = 28 ∨ k = 29 ∨ k = 30 ∨ k = 31 ∨ k = 32 ∨ k = 33 ∨ k = 34 ∨ k = 35 ∨ k = 36 ∨ k = 37 ∨ k = 38 ∨ k = 39 ∨ k = 40 ∨ k = 41 ∨ k = 42 ∨ k = 43 ∨ k = 44 ∨ k = 45 ∨ k = 46 ∨ k = 47 by omega) with rfl | rfl | rfl | rfl | rfl | rfl | rfl | rfl | rfl | rfl | rfl | rfl | rfl | rfl | rfl | rfl | rfl | rfl | rfl | rfl | rfl | rfl | rfl | rfl | rfl | rfl | rfl | rfl | rfl | rfl | rfl | rfl | rfl | rfl | rfl | rfl | rfl | rfl | rfl | rfl | rfl | rfl | rfl | rfl | rfl | rfl | rfl | rfl
  · exact (tq3 118 rfl)
  · exact (tq3 120 rfl)
  · exact (tq3 122 rfl)
  · exact (tq3 124 rfl)
  · exact (tq3 126 rfl)
  · exact (tq3 128 rfl)
  · exact (tq3 130 rfl)
  · exact (tq3 132 rfl)
  · exact (tq3 134 rfl)
  · exact (tq3 136 rfl)
  · exact (tq3 138 rfl)
  · exact (tq3 140 rfl)
  · exact (tq3 142 rfl)
  · exact (tq3 144 rfl)
  · exact (tq3 146 rfl)
  · exact (tq3 148 rfl)
  · exact (tq3 150 rfl)
  · exact (tq3 152 rfl)
  · exact (tq3 154 rfl)
  · exact (tq3 156 rfl)
  · exact (tq3 158 rfl)
  · exact (tq3 160 rfl)
  · exact (tq3 162 rfl)
  · exact (tq3 164 rfl)
  · exact (tq3 166 rfl)
  · exact (tq3 168 rfl)
  · exact (tq3 170 rfl)
  · exact (tq3 172 rfl)
  · exact (tq3 174 rfl)
  · exact (tq3 176 rfl)
  · exact (tq3 178 rfl)
  · exact (tq3 180 rfl)
  · exact (tq3 182 rfl)
  · exact (tq3 184 rfl)
  · exact (tq3 186 rfl)
  · exact (tq3 188 rfl)
  · exact (tq3 190 rfl)
  · exact (tq3 192 rfl)
  · exact (tq3 194 rfl)
  · exact (tq3 196 rfl)
  · exact (tq3 198 rfl)
  · exact (tq3 200 rfl)
  · exact (tq3 202 rfl)
  · exact (tq3 204 rfl)
  · exact (tq3 206 rfl)
  · exact (tq3 208 rfl)
  · exact (tq3 210 rfl)
  · exact (tq3 212 rfl)
theorem wf0 : ∀ w ∈ wsX00, w ∈ lw_tbl := by
  intro w hw
  obtain ⟨k, hk, rfl⟩ := List.mem_map.mp hw
  have hk := List.mem_range.mp hk
  rcases (show k = 0 ∨ k = 1 by omega) with rfl | rfl
  · exact (tq0 31 rfl)
  · exact (tq0 33 rfl)
theorem wf4 : ∀ w ∈ wsX40, w ∈ lw_tbl := by
  intro w hw
  obtain ⟨k, hk, rfl⟩ := List.mem_map.mp hw
  have hk := List.mem_range.mp hk
  rcases (show k = 0 ∨ k = 1 ∨ k = 2 ∨ k = 3 ∨ k = 4 by omega) with rfl | rfl | rfl | rfl | rfl
  · exact (tq0 68 rfl)
  · exact (tq0 70 rfl)
  · exact (tq0 72 rfl)
  · exact (tq0 74 rfl)
  · exact (tq0 76 rfl)
theorem wf7 : ∀ w ∈ wsX70, w ∈ lw_tbl := by
  intro w hw
  obtain ⟨k, hk, rfl⟩ := List.mem_map.mp hw
  have hk := List.mem_range.mp hk
  rcases (show k = 0 ∨ k = 1 ∨ k = 2 ∨ k = 3 by omega) with rfl | rfl | rfl | rfl
  · exact (tq0 90 rfl)
  · exact (tq0 92 rfl)
  · exact (tq0 94 rfl)
  · exact (tq0 96 rfl)
theorem wf3 : ∀ w ∈ wsX30, w ∈ lw_tbl := by
  intro w hw
  obtain ⟨k, hk, rfl⟩ := List.mem_map.mp hw
  have hk := List.mem_range.mp hk
  rcases (show k = 0 ∨ k = 1 ∨ k = 2 ∨ k = 3 by omega) with rfl | rfl | rfl | rfl
  · exact (tq0 114 rfl)
  · exact (tq0 116 rfl)
  · exact (tq0 118 rfl)
  · exact (tq0 120 rfl)
theorem wf2 : ∀ w ∈ wsX20, w ∈ lw_tbl := by
  intro w hw
  obtain ⟨k, hk, rfl⟩ := List.mem_map.mp hw
  have hk := List.mem_range.mp hk
  rcases (show k = 0 ∨ k = 1 ∨ k = 2 ∨ k = 3 ∨ k = 4 ∨ k = 5 ∨ k = 6 by omega) with rfl | rfl | rfl | rfl | rfl | rfl | rfl
  · exact (tq0 144 rfl)
  · exact (tq0 146 rfl)
  · exact (tq0 148 rfl)
  · exact (tq0 150 rfl)
  · exact (tq0 152 rfl)
  · exact (tq0 154 rfl)
  · exact (tq0 156 rfl)
theorem wf6 : ∀ w ∈ wsX60, w ∈ lw_tbl := by
  intro w hw
  obtain ⟨k, hk, rfl⟩ := List.mem_map.mp hw
  have hk := List.mem_range.mp hk
  rcases (show k = 0 ∨ k = 1 ∨ k = 2 ∨ k = 3 ∨ k = 4 by omega) with rfl | rfl | rfl | rfl | rfl
  · exact (tq0 177 rfl)
  · exact (tq0 179 rfl)
  · exact (tq0 181 rfl)
  · exact (tq0 183 rfl)
  · exact (tq0 185 rfl)
theorem wf5 : ∀ w ∈ wsX50, w ∈ lw_tbl := by
  intro w hw
  obtain ⟨k, hk, rfl⟩ := List.mem_map.mp hw
  have hk := List.mem_range.mp hk
  rcases (show k = 0 ∨ k = 1 ∨ k = 2 ∨ k = 3 ∨ k = 4 ∨ k = 5 ∨ k = 6 ∨ k = 7 ∨ k = 8 by omega) with rfl | rfl | rfl | rfl | rfl | rfl | rfl | rfl | rfl
  · exact (tq0 217 rfl)
  · exact (tq0 219 rfl)
  · exact (tq0 221 rfl)
  · exact (tq0 223 rfl)
  · exact (tq0 225 rfl)
  · exact (tq0 227 rfl)
  · exact (tq0 229 rfl)
  · exact (tq0 231 rfl)
  · exact (tq0 233 rfl)
theorem wf1 : ∀ w ∈ wsX10, w ∈ lw_tbl := by
  intro w hw
  obtain ⟨k, hk, rfl⟩ := List.mem_map.mp hw
  have hk := List.mem_range.mp hk
  rcases (show k = 0 ∨ k = 1 ∨ k = 2 ∨ k = 3 ∨ k = 4 by omega) with rfl | rfl | rfl | rfl | rfl
  · exact (tq1 10 rfl)
  · exact (tq1 12 rfl)
  · exact (tq1 14 rfl)
  · exact (tq1 16 rfl)
  · exact (tq1 18 rfl)
theorem wr_r : ∀ w ∈ (wsL_law_r1 ++ (wsL_law_r2 ++ (wsL_law_r3 ++ (wsL_law_r4 ++ (wsL_law_r5 ++ (wsL_law_r6 ++ (wsL_law_r7 ++ (wsL_law_r8 ++ (wsL_law_r9 ++ (wsL_law_r10 ++ (wsL_law_r11 ++ (wsL_law_r12 ++ (wsL_law_r13 ++ (wsL_law_r14 ++ (wsL_law_r15 ++ (wsL_law_r16 ++ (wsL_law_r17 ++ (wsL_law_r18 ++ (wsL_law_r19 ++ (wsL_law_r20 ++ (wsL_law_r21 ++ (wsL_law_r22 ++ (wsL_law_r23 ++ (wsL_law_r24 ++ (wsL_law_r25 ++ (wsL_law_r26 ++ (wsL_law_r27 ++ (wsL_law_r28 ++ (wsL_law_r29 ++ (wsL_law_r30 ++ (wsL_law_r31 ++ (wsL_law_r32 ++ (wsL_law_r33 ++ (wsL_law_r34 ++ (wsL_law_r35 ++ (wsL_law_r36 ++ (wsL_law_r37 ++ (wsL_law_r38)))))))))))))))))))))))))))))))))))))), w ∈ lw_tbl := List.forall_mem_append.mpr ⟨wr1, List.forall_mem_append.mpr ⟨wr2, List.forall_mem_append.mpr ⟨wr3, List.forall_mem_append.mpr ⟨wr4, List.forall_mem_append.mpr ⟨wr5, List.forall_mem_append.mpr ⟨wr6, List.forall_mem_append.mpr ⟨wr7, List.forall_mem_append.mpr ⟨wr8, List.forall_mem_append.mpr ⟨wr9, List.forall_mem_append.mpr ⟨wr10, List.forall_mem_append.mpr ⟨wr11, List.forall_mem_append.mpr ⟨wr12, List.forall_mem_append.mpr ⟨wr13, List.forall_mem_append.mpr ⟨wr14, List.forall_mem_append.mpr ⟨wr15, List.forall_mem_append.mpr ⟨wr16, List.forall_mem_append.mpr ⟨wr17, List.forall_mem_append.mpr ⟨wr18, List.forall_mem_append.mpr ⟨wr19, List.forall_mem_append.mpr ⟨wr20, List.forall_mem_append.mpr ⟨wr21, List.forall_mem_append.mpr ⟨wr22, List.forall_mem_append.mpr ⟨wr23, List.forall_mem_append.mpr ⟨wr24, List.forall_mem_append.mpr ⟨wr25, List.forall_mem_append.mpr ⟨wr26, List.forall_mem_append.mpr ⟨wr27, List.forall_mem_append.mpr ⟨wr28, List.forall_mem_append.mpr ⟨wr29, List.forall_mem_append.mpr ⟨wr30, List.forall_mem_append.mpr ⟨wr31, List.forall_mem_append.mpr ⟨wr32, List.forall_mem_append.mpr ⟨wr33, List.forall_mem_append.mpr ⟨wr34, List.forall_mem_append.mpr ⟨wr35, List.forall_mem_append.mpr ⟨wr36, List.forall_mem_append.mpr ⟨wr37, wr38⟩⟩⟩⟩⟩⟩⟩⟩⟩⟩⟩⟩⟩⟩⟩⟩⟩⟩⟩⟩⟩⟩⟩⟩⟩⟩⟩⟩⟩⟩⟩⟩⟩⟩⟩⟩⟩
theorem wsAll : ∀ w ∈ wsL_law, w ∈ lw_tbl := List.forall_mem_append.mpr ⟨List.forall_mem_append.mpr ⟨List.forall_mem_append.mpr ⟨List.forall_mem_append.mpr ⟨List.forall_mem_append.mpr ⟨List.forall_mem_append.mpr ⟨List.forall_mem_append.mpr ⟨List.forall_mem_append.mpr ⟨List.forall_mem_append.mpr ⟨List.forall_mem_append.mpr ⟨List.forall_mem_append.mpr ⟨wr_r, wf8⟩, wf9⟩, wf0⟩, wf4⟩, wf7⟩, wf3⟩, wf2⟩, wf6⟩, wf5⟩, wf1⟩, fun _ h => absurd h List.not_mem_nil⟩
theorem nwAll : ∀ w ∈ nwL, w ∈ lw_tbl := List.forall_mem_append.mpr ⟨by
  show ∀ w ∈ nwF.map _, w ∈ lw_tbl
  unfold nwF
  simp only [List.map_cons, List.map_nil]
  exact List.forall_mem_cons.mpr ⟨(tq0 67 rfl), List.forall_mem_cons.mpr ⟨(tq0 87 rfl), List.forall_mem_cons.mpr ⟨(tq0 89 rfl), List.forall_mem_cons.mpr ⟨(tq0 107 rfl), List.forall_mem_cons.mpr ⟨(tq0 109 rfl), List.forall_mem_cons.mpr ⟨(tq0 111 rfl), List.forall_mem_cons.mpr ⟨(tq0 113 rfl), List.forall_mem_cons.mpr ⟨(tq0 130 rfl), List.forall_mem_cons.mpr ⟨(tq0 131 rfl), List.forall_mem_cons.mpr ⟨(tq0 134 rfl), List.forall_mem_cons.mpr ⟨(tq0 135 rfl), List.forall_mem_cons.mpr ⟨(tq0 137 rfl), List.forall_mem_cons.mpr ⟨(tq0 138 rfl), List.forall_mem_cons.mpr ⟨(tq0 141 rfl), List.forall_mem_cons.mpr ⟨(tq0 143 rfl), List.forall_mem_cons.mpr ⟨(tq0 166 rfl), List.forall_mem_cons.mpr ⟨(tq0 168 rfl), List.forall_mem_cons.mpr ⟨(tq0 170 rfl), List.forall_mem_cons.mpr ⟨(tq0 172 rfl), List.forall_mem_cons.mpr ⟨(tq0 173 rfl), List.forall_mem_cons.mpr ⟨(tq0 174 rfl), List.forall_mem_cons.mpr ⟨(tq0 176 rfl), List.forall_mem_cons.mpr ⟨(tq0 199 rfl), List.forall_mem_cons.mpr ⟨(tq0 200 rfl), List.forall_mem_cons.mpr ⟨(tq0 202 rfl), List.forall_mem_cons.mpr ⟨(tq0 203 rfl), List.forall_mem_cons.mpr ⟨(tq0 207 rfl), List.forall_mem_cons.mpr ⟨(tq0 209 rfl), List.forall_mem_cons.mpr ⟨(tq0 211 rfl), List.forall_mem_cons.mpr ⟨(tq0 212 rfl), List.forall_mem_cons.mpr ⟨(tq0 214 rfl), List.forall_mem_cons.mpr ⟨(tq0 216 rfl), List.forall_mem_cons.mpr ⟨(tq1 2 rfl), List.forall_mem_cons.mpr ⟨(tq1 4 rfl), List.forall_mem_cons.mpr ⟨(tq1 6 rfl), List.forall_mem_cons.mpr ⟨(tq1 9 rfl), List.forall_mem_cons.mpr ⟨(tq2 79 rfl), fun _ h => absurd h List.not_mem_nil⟩⟩⟩⟩⟩⟩⟩⟩⟩⟩⟩⟩⟩⟩⟩⟩⟩⟩⟩⟩⟩⟩⟩⟩⟩⟩⟩⟩⟩⟩⟩⟩⟩⟩⟩⟩⟩, List.forall_mem_append.mpr ⟨by
  show ∀ w ∈ nwM.map _, w ∈ lw_tbl
  unfold nwM
  simp only [List.map_cons, List.map_nil]
  exact List.forall_mem_cons.mpr ⟨(tq0 25 rfl), List.forall_mem_cons.mpr ⟨(tq0 58 rfl), List.forall_mem_cons.mpr ⟨(tq0 80 rfl), List.forall_mem_cons.mpr ⟨(tq0 102 rfl), List.forall_mem_cons.mpr ⟨(tq0 124 rfl), List.forall_mem_cons.mpr ⟨(tq0 160 rfl), List.forall_mem_cons.mpr ⟨(tq0 189 rfl), List.forall_mem_cons.mpr ⟨(tq0 195 rfl), List.forall_mem_cons.mpr ⟨(tq0 197 rfl), List.forall_mem_cons.mpr ⟨(tq0 237 rfl), List.forall_mem_cons.mpr ⟨(tq1 63 rfl), List.forall_mem_cons.mpr ⟨(tq1 74 rfl), List.forall_mem_cons.mpr ⟨(tq1 78 rfl), List.forall_mem_cons.mpr ⟨(tq1 87 rfl), List.forall_mem_cons.mpr ⟨(tq1 100 rfl), List.forall_mem_cons.mpr ⟨(tq1 120 rfl), List.forall_mem_cons.mpr ⟨(tq1 132 rfl), List.forall_mem_cons.mpr ⟨(tq1 144 rfl), List.forall_mem_cons.mpr ⟨(tq1 148 rfl), List.forall_mem_cons.mpr ⟨(tq1 160 rfl), List.forall_mem_cons.mpr ⟨(tq1 168 rfl), List.forall_mem_cons.mpr ⟨(tq1 184 rfl), List.forall_mem_cons.mpr ⟨(tq1 188 rfl), List.forall_mem_cons.mpr ⟨(tq1 192 rfl), List.forall_mem_cons.mpr ⟨(tq1 200 rfl), List.forall_mem_cons.mpr ⟨(tq1 217 rfl), List.forall_mem_cons.mpr ⟨(tq1 231 rfl), List.forall_mem_cons.mpr ⟨(tq2 6 rfl), List.forall_mem_cons.mpr ⟨(tq2 14 rfl), List.forall_mem_cons.mpr ⟨(tq2 18 rfl), List.forall_mem_cons.mpr ⟨(tq2 37 rfl), List.forall_mem_cons.mpr ⟨(tq2 54 rfl), List.forall_mem_cons.mpr ⟨(tq2 62 rfl), List.forall_mem_cons.mpr ⟨(tq2 63 rfl), List.forall_mem_cons.mpr ⟨(tq2 75 rfl), List.forall_mem_cons.mpr ⟨(tq2 81 rfl), List.forall_mem_cons.mpr ⟨(tq2 86 rfl), List.forall_mem_cons.mpr ⟨(tq2 90 rfl), List.forall_mem_cons.mpr ⟨(tq2 100 rfl), List.forall_mem_cons.mpr ⟨(tq2 101 rfl), List.forall_mem_cons.mpr ⟨(tq2 138 rfl), List.forall_mem_cons.mpr ⟨(tq2 142 rfl), List.forall_mem_cons.mpr ⟨(tq2 146 rfl), List.forall_mem_cons.mpr ⟨(tq2 169 rfl), List.forall_mem_cons.mpr ⟨(tq2 182 rfl), List.forall_mem_cons.mpr ⟨(tq2 190 rfl), List.forall_mem_cons.mpr ⟨(tq2 199 rfl), List.forall_mem_cons.mpr ⟨(tq2 207 rfl), List.forall_mem_cons.mpr ⟨(tq2 211 rfl), List.forall_mem_cons.mpr ⟨(tq2 215 rfl), List.forall_mem_cons.mpr ⟨(tq2 219 rfl), List.forall_mem_cons.mpr ⟨(tq2 220 rfl), List.forall_mem_cons.mpr ⟨(tq2 224 rfl), List.forall_mem_cons.mpr ⟨(tq2 228 rfl), List.forall_mem_cons.mpr ⟨(tq2 232 rfl), List.forall_mem_cons.mpr ⟨(tq2 237 rfl), List.forall_mem_cons.mpr ⟨(tq3 1 rfl), List.forall_mem_cons.mpr ⟨(tq3 17 rfl), List.forall_mem_cons.mpr ⟨(tq3 38 rfl), List.forall_mem_cons.mpr ⟨(tq3 42 rfl), List.forall_mem_cons.mpr ⟨(tq3 47 rfl), fun _ h => absurd h List.not_mem_nil⟩⟩⟩⟩⟩⟩⟩⟩⟩⟩⟩⟩⟩⟩⟩⟩⟩⟩⟩⟩⟩⟩⟩⟩⟩⟩⟩⟩⟩⟩⟩⟩⟩⟩⟩⟩⟩⟩⟩⟩⟩⟩⟩⟩⟩⟩⟩⟩⟩⟩⟩⟩⟩⟩⟩⟩⟩⟩⟩⟩⟩, List.forall_mem_cons.mpr ⟨(tq0 52 rfl), by
  show ∀ w ∈ nwAr.map _, w ∈ lw_tbl
  unfold nwAr
  simp only [List.map_cons, List.map_nil]
  exact List.forall_mem_cons.mpr ⟨(tq0 22 rfl), List.forall_mem_cons.mpr ⟨(tq0 38 rfl), List.forall_mem_cons.mpr ⟨(tq0 40 rfl), List.forall_mem_cons.mpr ⟨(tq0 42 rfl), List.forall_mem_cons.mpr ⟨(tq0 44 rfl), List.forall_mem_cons.mpr ⟨(tq0 55 rfl), fun _ h => absurd h List.not_mem_nil⟩⟩⟩⟩⟩⟩⟩⟩⟩
/-! what the Statement gives at the law's entry -/
theorem ent_ar {s : State} {args : Array Value} (ht : ∀ w ∈ lw_tbl, w.before args s = true) : ∃ cA : Nat → ClassId, arK cA s := by
  obtain ⟨c0, k0, p0, a01, a02, a03⟩ := Cond.arrayClass_spec (ht (.arrayClass .float) (wsAll _ (mw3 23 rfl)))
  obtain ⟨c1, k1, p1, a11, a12, a13⟩ := Cond.arrayClass_spec (ht (.arrayClass .int) (wsAll _ (mw3 9 rfl)))
  obtain ⟨c2, k2, p2, a21, a22, a23⟩ := Cond.arrayClass_spec (ht (.arrayClass .boolean) (wsAll _ (mw4 1 rfl)))
  obtain ⟨q4, c4, k4, b41, -, b42, b43, b44⟩ := Cond.arrayOver_spec (ht _ (nwAll _ (nwo 5 rfl)))
  obtain ⟨q5, c5, k5, b51, -, b52, b53, b54⟩ := Cond.arrayOver_spec (ht _ (nwAll _ (nwo 2 rfl)))
  obtain ⟨q6, c6, k6, b61, -, b62, b63, b64⟩ := Cond.arrayOver_spec (ht _ (nwAll _ (nwo 1 rfl)))
  obtain ⟨q8, c8, k8, b81, -, b82, b83, b84⟩ := Cond.arrayOver_spec (ht _ (nwAll _ (nwo 4 rfl)))
  obtain ⟨q9, c9, k9, b91, -, b92, b93, b94⟩ := Cond.arrayOver_spec (ht _ (nwAll _ (nwo 3 rfl)))
  obtain ⟨q10, c10, k10, b101, -, b102, b103, b104⟩ := Cond.arrayOver_spec (ht _ (nwAll _ (nwo 0 rfl)))
  refine ⟨fun k => if k = 0 then c0 else if k = 1 then c1 else if k = 2 then c2 else if k = 4 then c4 else if k = 5 then c5 else if k = 6 then c6 else if k = 8 then c8 else if k = 9 then c9 else c10, fun k hk => ?_⟩
  have hk' : k = 0 ∨ k = 1 ∨ k = 2 ∨ k = 4 ∨ k = 5 ∨ k = 6 ∨ k = 8 ∨ k = 9 ∨ k = 10 := by simpa [aok] using hk
  rcases hk' with rfl | rfl | rfl | rfl | rfl | rfl | rfl | rfl | rfl
  · exact ⟨fun N z => ⟨(fun k h => by cases h), k0, a02, p0, a03⟩, a01⟩
  · exact ⟨fun N z => ⟨(fun k h => by cases h), k1, a12, p1, a13⟩, a11⟩
  · exact ⟨fun N z => ⟨(fun k h => by cases h), k2, a22, p2, a23⟩, a21⟩
  · exact ⟨fun N z => ⟨(fun k h => by cases h), k4, b42, q4, b43⟩, k4, q4, b42, b43, b41, b44⟩
  · exact ⟨fun N z => ⟨(fun k h => by cases h), k5, b52, q5, b53⟩, k5, q5, b52, b53, b51, b54⟩
  · exact ⟨fun N z => ⟨(fun k h => by cases h), k6, b62, q6, b63⟩, k6, q6, b62, b63, b61, b64⟩
  · exact ⟨fun N z => ⟨(fun k h => by cases h), k8, b82, q8, b83⟩, k8, q8, b82, b83, b81, b84⟩
  · exact ⟨fun N z => ⟨(fun k h => by cases h), k9, b92, q9, b93⟩, k9, q9, b92, b93, b91, b94⟩
  · exact ⟨fun N z => ⟨(fun k h => by cases h), k10, b102, q10, b103⟩, k10, q10, b102, b103, b101, b104⟩
theorem ent_cls {s : State} {args : Array Value} (ht : ∀ w ∈ lw_tbl, w.before args s = true) : ∃ D : va_G, va_K D vwCl [] s := by
  obtain ⟨c0, i0, h0⟩ := u_known (C := RX0) (T := TX0) (N := 2) (n := 2) ht (fun w h => wf0 w h) (ht (.instantiable RX0 2) (wsAll _ (mw1 15 rfl)))
  obtain ⟨c1, i1, h1⟩ := u_known (C := RX1) (T := TX1) (N := 5) (n := 5) ht (fun w h => wf1 w h) (ht (.instantiable RX1 5) (wsAll _ (mw3 4 rfl)))
  obtain ⟨c2, i2, h2⟩ := u_known (C := RX2) (T := TX2) (N := 7) (n := 7) ht (fun w h => wf2 w h) (ht (.instantiable RX2 7) (wsAll _ (mw2 22 rfl)))
  obtain ⟨c3, i3, h3⟩ := u_known (C := RX3) (T := TX3) (N := 4) (n := 4) ht (fun w h => wf3 w h) (ht (.instantiable RX3 4) (wsAll _ (mw2 20 rfl)))
  obtain ⟨c4, i4, h4⟩ := u_known (C := RX4) (T := TX4) (N := 5) (n := 5) ht (fun w h => wf4 w h) (ht (.instantiable RX4 5) (wsAll _ (mw2 13 rfl)))
  obtain ⟨c5, i5, h5⟩ := u_known (C := RX5) (T := TX5) (N := 9) (n := 9) ht (fun w h => wf5 w h) (ht (.instantiable RX5 9) (wsAll _ (mw3 2 rfl)))
  obtain ⟨c6, i6, h6⟩ := u_known (C := RX6) (T := TX6) (N := 5) (n := 5) ht (fun w h => wf6 w h) (ht (.instantiable RX6 5) (wsAll _ (mw3 0 rfl)))
  obtain ⟨c7, i7, h7⟩ := u_known (C := RX7) (T := TX7) (N := 4) (n := 4) ht (fun w h => wf7 w h) (ht (.instantiable RX7 4) (wsAll _ (mw2 18 rfl)))
  obtain ⟨c8, i8, h8⟩ := u_known (C := RX8) (T := TX8) (N := 11) (n := 11) ht (fun w h => wf8 w h) (ht (.instantiable RX8 11) (wsAll _ (mw1 1 rfl)))
  obtain ⟨c9, i9, h9⟩ := u_known (C := RX9) (T := TX9) (N := 48) (n := 48) ht (fun w h => wf9 w h) (ht (.instantiable RX9 48) (wsAll _ (mw1 4 rfl)))
  refine ⟨(fun k => if k = 0 then c0 else if k = 1 then c1 else if k = 2 then c2 else if k = 3 then c3 else if k = 4 then c4 else if k = 5 then c5 else if k = 6 then c6 else if k = 7 then c7 else if k = 8 then c8 else c9, fun k => if k = 0 then i0 else if k = 1 then i1 else if k = 2 then i2 else if k = 3 then i3 else if k = 4 then i4 else if k = 5 then i5 else if k = 6 then i6 else if k = 7 then i7 else if k = 8 then i8 else i9), fun k q hq => ?_, fun k q h => by simp at h⟩
  match k, hq with
  | 0, hq => cases hq; exact h0
  | 1, hq => cases hq; exact h1
  | 2, hq => cases hq; exact h2
  | 3, hq => cases hq; exact h3
  | 4, hq => cases hq; exact h4
  | 5, hq => cases hq; exact h5
  | 6, hq => cases hq; exact h6
  | 7, hq => cases hq; exact h7
  | 8, hq => cases hq; exact h8
  | 9, hq => cases hq; exact h9
  | k + 10, hq => simp [vwCl] at hq
theorem len31 {s : State} {args : Array Value} {tm : Term} {v : Value} {t : Nat} {cell : Cell} (h : (Term.length tm).eval args s none [] s = some v) (ht : tm.eval args s none [] s = some (.ref t)) (hc : s.arrayAt? t = some cell) : cell.slots.size < 2 ^ 31 := by
  simp only [Term.eval, ht, hc, Option.bind_eq_bind, Option.bind_some] at h
  by_cases hlt : cell.slots.size < 2147483648
  · exact hlt
  · simp [hlt] at h
theorem ent_one {s : State} {args : Array Value} {n : String} {k N : Nat} (hN : (stV k).length = N) (hN2 : N < 2 ^ 31) (harr : (Cond.arrayOf (.static "JumpDesk" n "[I") .int).before args s = true) (hlen : (Cond.eq (.length (.static "JumpDesk" n "[I")) (.int (Int32.ofNat N))).before args s = true) (hel : ∀ j : Nat, j < N → (Term.elem (.static "JumpDesk" n "[I") (.int (Int32.ofNat j))).eval args s none [] s = some (.int (stv k j))) (hex : (Cond.exactly (.static "JumpDesk" n "[I") "[I").before args s = true) (hl : (Cond.laysStatic "JumpDesk" n "[I").before args s = true) (hini : (Cond.initialized "JumpDesk").before args s = true) :
    ∃ t : Nat, va_Z RX8 n "[I" (.ref t) (fun q => s.heap.size ≤ q) s s.heap ∧ va_T .int t (stV k).length (fun j => .int (stv k j)) (fun q => s.heap.size ≤ q) s s.heap ∧ StX s.heap.size t k s s.heap := by
  have hA : ∀ a : Nat, a < s.heap.size → ¬ s.heap.size ≤ a := fun a h => by omega
  have hlv := va_eqt hlen
  obtain ⟨t, htm, hT⟩ := va_Tof (A := fun q => s.heap.size ≤ q) (f := fun j => .int (stv k j)) hN2 harr hlv hel hA
  refine ⟨t, va_Zref hl hini htm hA, by rw [hN]; exact hT, ?_⟩
  obtain ⟨a, c, cell, kc, e1, e2, e3, e4, e5, e6, -⟩ := Cond.exactly_spec hex
  cases htm.symm.trans e1
  obtain ⟨t2, cell2, g1, g2, g3⟩ := Term.length_spec hlv
  cases htm.symm.trans g1
  have hcell2 := (State.arrayAt?_spec g2).1
  cases e3.symm.trans hcell2
  have hsz : cell.slots.size < 2 ^ 31 := len31 hlv htm g2
  have hsize : cell.slots.size = N := by
    have h1 : Int32.ofNat N = cell.slots.size.toInt32 := Value.int.inj g3
    have h2 : (Int32.ofNat N).toInt = (Int32.ofNat cell.slots.size).toInt := congrArg Int32.toInt h1
    have h3 := nI_toInt hN2
    have h4 := nI_toInt hsz
    unfold nI at h3 h4
    omega
  obtain ⟨cell3, f1, -, f3, -, -, f6, -⟩ := hT
  cases e3.symm.trans f1
  refine ⟨cell, e3, f3, fun q hq => (by rw [hq] at e5; cases e5), by rw [e6]; exact e2, ?_, hA t (Array.getElem?_eq_some_iff.mp e3).1⟩
  apply Array.ext
  · rw [hsize]; simp [hN]
  · intro i h1 h2
    have h9 := f6 i (by omega)
    rw [Array.getElem?_eq_getElem h1] at h9
    rw [Option.some.inj h9]
    simp
theorem ent_st {s : State} {args : Array Value} (ht : ∀ w ∈ lw_tbl, w.before args s = true) (hg : (Jvm.Cond.and given_1 narrow_1).before args s = true) : ∃ sa : Nat → Nat, Sta s.heap.size sa s s.heap := by
  have hs := flat_of_before _ hg
  have hini : (Cond.initialized "JumpDesk").before args s = true := ht _ (tq0 1 rfl)
  obtain ⟨t0, z0⟩ := ent_one (n := "FASTEST") (k := 0) (N := 4) (s := s) (args := args) rfl (by decide) (hs _ (by decide +kernel)) (hs _ (by decide +kernel)) (fun j hj => by
    rcases (show j = 0 ∨ j = 1 ∨ j = 2 ∨ j = 3 by omega) with rfl | rfl | rfl | rfl
    all_goals exact va_eqt (hs _ (by decide +kernel))) (hs _ (by decide +kernel)) (ht _ (tq2 80 rfl)) hini
  obtain ⟨t1, z1⟩ := ent_one (n := "MOST_RULES") (k := 1) (N := 10) (s := s) (args := args) rfl (by decide) (hs _ (by decide +kernel)) (hs _ (by decide +kernel)) (fun j hj => by
    rcases (show j = 0 ∨ j = 1 ∨ j = 2 ∨ j = 3 ∨ j = 4 ∨ j = 5 ∨ j = 6 ∨ j = 7 ∨ j = 8 ∨ j = 9 by omega) with rfl | rfl | rfl | rfl | rfl | rfl | rfl | rfl | rfl | rfl
    all_goals exact va_eqt (hs _ (by decide +kernel))) (hs _ (by decide +kernel)) (ht _ (tq1 226 rfl)) hini
  obtain ⟨t2, z2⟩ := ent_one (n := "FIRST_RULES") (k := 2) (N := 10) (s := s) (args := args) rfl (by decide) (hs _ (by decide +kernel)) (hs _ (by decide +kernel)) (fun j hj => by
    rcases (show j = 0 ∨ j = 1 ∨ j = 2 ∨ j = 3 ∨ j = 4 ∨ j = 5 ∨ j = 6 ∨ j = 7 ∨ j = 8 ∨ j = 9 by omega) with rfl | rfl | rfl | rfl | rfl | rfl | rfl | rfl | rfl | rfl
    all_goals exact va_eqt (hs _ (by decide +kernel))) (hs _ (by decide +kernel)) (ht _ (tq0 46 rfl)) hini
  refine ⟨fun k => if k = 0 then t0 else if k = 1 then t1 else t2, fun k hk => ?_⟩
  rcases (show k = 0 ∨ k = 1 ∨ k = 2 by omega) with rfl | rfl | rfl
  · exact z0
  · exact z1
  · exact z2
theorem ent_nw {s : State} {args : Array Value} (ht : ∀ w ∈ lw_tbl, w.before args s = true) : ∀ w ∈ nwL, va_Nw w s := by
  intro w hw
  have h9 := ht w (nwAll w hw)
  rcases List.mem_append.mp hw with h1 | h1
  · obtain ⟨⟨a, i, b, n, d, x⟩, -, rfl⟩ := List.mem_map.mp h1
    exact va_Nw.of rfl h9
  · rcases List.mem_append.mp h1 with h1 | h1
    · obtain ⟨⟨a, i, y, x⟩, -, rfl⟩ := List.mem_map.mp h1
      exact va_Nw.of rfl h9
    · rcases List.mem_cons.mp h1 with rfl | h1
      · exact va_Nw.of rfl h9
      · obtain ⟨C, -, rfl⟩ := List.mem_map.mp h1
        exact va_AO.of h9
def sg0 : Sg := (0, (fun _ _ => 0), (fun _ _ => none), (fun _ _ => 0), (fun _ _ => 0))
