/-! contracts: what a method answers and leaves, as a function on the memory -/
def Bw (B : Nat) (D : va_G) (cA : Nat → ClassId) (sa : Nat → Nat) (σ : Sg) (U : State) : Prop := Hm B D cA σ U.heap ∧ va_K D vwCl [] U ∧ arK cA U ∧ (∀ w ∈ nwL, va_Nw w U) ∧ Sta B sa U U.heap
def Ct {α : Type} (l : Launch) (B : Nat) (D : va_G) (cA : Nat → ClassId) (sa : Nat → Nat) (y : MethodName) (cc : ByteArray) (maxL : Nat) (ret : Option FieldType) (rm : Room) (rv : α → Option Value) (As : List Lv) (σ : Sg) (mc ms : Nat) (x : Option (α × Sg)) : Prop := ∀ (r : α) (σ' : Sg), x = some (r, σ') → Met l y (Cond.code y cc maxL ret :: wsL_law) rm (va_Pc (As.map (tvl B sa)) (Bw B D cA sa σ)) (Qr B D cA rv r σ') mc ms (fun q => B ≤ q)
theorem Bw.blind {B : Nat} {D : va_G} {cA : Nat → ClassId} {sa : Nat → Nat} {σ : Sg} (av : List Value) : FrameBlind (va_Pc av (Bw B D cA sa σ)) := fun a U g mk q => by
  obtain ⟨q0, q1, q2, q3, q4, q5⟩ := q
  exact ⟨q0, q1, va_K.moved (u := U) (U := U.calling g mk a) (Vm.Alike.refl U.vm) q2, arK.moved (u := U) (U := U.calling g mk a) (Vm.Alike.refl U.vm) q3, fun w hw => (by
    rcases List.mem_append.mp hw with h1 | h1
    · obtain ⟨⟨a, i, b, n, d, x⟩, -, rfl⟩ := List.mem_map.mp h1
      exact va_Nw.same (u := U) (U := U.calling g mk _) rfl rfl (q4 _ hw)
    · rcases List.mem_append.mp h1 with h1 | h1
      · obtain ⟨⟨a, i, y, x⟩, -, rfl⟩ := List.mem_map.mp h1
        exact va_Nw.same (u := U) (U := U.calling g mk _) rfl rfl (q4 _ hw)
      · rcases List.mem_cons.mp h1 with rfl | h1
        · exact va_Nw.same (u := U) (U := U.calling g mk _) rfl rfl (q4 _ hw)
        · obtain ⟨C, -, rfl⟩ := List.mem_map.mp h1
          exact va_AO.moved (u := U) (U := U.calling g mk _) (Vm.Alike.refl U.vm) (q4 _ hw)), fun k hk => ⟨va_Z.moved (u := U) (U := U.calling g mk a) (Vm.Alike.refl U.vm) (q5 k hk).1, va_T.moved (u := U) (U := U.calling g mk a) (Vm.Alike.refl U.vm) (q5 k hk).2.1, StX.moved (u := U) (U := U.calling g mk a) (Vm.Alike.refl U.vm) (q5 k hk).2.2⟩⟩
theorem Sta.at {B : Nat} {sa : Nat → Nat} {s U : State} {H : Heap} {locs : List Loc} (h : Sta B sa s s.heap) (hS : va_S (fun q => B ≤ q) s.heap H locs) (hvm : s.vm.Alike U.vm) : Sta B sa U H := fun k hk => ⟨va_Z.moved hvm ((h k hk).1.kept hS.2.1), va_T.moved hvm ((h k hk).2.1.kept hS.2.1), StX.moved hvm ((h k hk).2.2.kept hS.2.1)⟩
theorem Bw.at {p : Program} {l : Launch} {e : Env} {R : Room} {s : State} {m : MethodId} {args : Array Value} {below : List Frame} {meth : Method} {c : Code} {B : Nat} {D : va_G} {cA : Nat → ClassId} {sa : Nat → Nat} {cc : ByteArray} {own : String} {nL : Nat} {ret : Option FieldType} (h : Ok (p, l, e, R, s, m, args, below, meth, c, B, D, cA, sa) cc own nL ret) {σ : Sg} {H : Heap} {locs : List Loc} (hm : Hm B D cA σ H) (hS : va_S (fun q => B ≤ q) s.heap H locs) {U : State} (hU : U.heap = H) (hW : s.WarmedH U.vm) : Bw B D cA sa σ U := by
  obtain ⟨hx, hb, hml, hr, ho, ht, hK, hA, hn, hst, hlk⟩ := h
  exact ⟨by rw [hU]; exact hm, hK.moved hW.alike, hA.moved hW.alike, fun w hw => nwarm hw hW (hn w hw), by rw [hU]; exact hst.at hS hW.alike⟩
theorem Ct.of {α : Type} {l : Launch} {B : Nat} {D : va_G} {cA : Nat → ClassId} {sa : Nat → Nat} {y : MethodName} {cc : ByteArray} {maxL : Nat} {ret : Option FieldType} {rm : Room} {rv : α → Option Value} {As : List Lv} {σ : Sg} {mc ms : Nat} {x : Option (α × Sg)} {own : String} (hy : plainName y.cls = true) (hown : y.cls = own) (lv : List (Nat × Lv)) (hn : (As.map lcat).sum ≤ maxL) (hlv : largs 0 As = lv)
    (body : ∀ (p : Program) (e : Env) (s : State) (m : MethodId) (args : Array Value) (below : List Frame) (meth : Method) (c : Code), Ok (p, l, e, rm, s, m, args, below, meth, c, B, D, cA, sa) cc own maxL ret → (y.name = "<init>" → meth.name = "<init>") → Wq (p, l, e, rm, s, m, args, below, meth, c, B, D, cA, sa) rv maxL mc ms 0 0 0 lv [] σ x) : Ct l B D cA sa y cc maxL ret rm rv As σ mc ms x := by
  intro r σ' hx
  refine Met.ofW (cc := cc) (maxL := maxL) (ret := ret) hy rfl ?_
  intro p e s m args below meth c s₁ Bd hml hv
  obtain ⟨rfl, hm, hK, hA, hnw, hst⟩ := hv
  have hts := atoms_spec (ws := Cond.code y cc maxL ret :: wsL_law) Bd.pre
  have hfc : s.vm.findClass own = some m.cls := by rw [← hown]; exact findClass_of_methodNamed Bd.named
  have hok : Ok (p, l, e, rm, s, m, (As.map (tvl B sa)).toArray, below, meth, c, B, D, cA, sa) cc own maxL ret := ⟨Bd.exec, Bd.bytes, hml, Bd.returns, hfc, fun w hw => hts w (List.mem_cons_of_mem _ hw), hK, hA, hnw, hst, Bd.notSynchronized⟩
  have hnm : y.name = "<init>" → meth.name = "<init>" := fun h => by rw [← h]; exact (name_of_methodNamed Bd.named Bd.method).1
  have hlen : (lg_sl (As.map (tvl B sa))).length ≤ maxL := by
    refine Nat.le_trans (Nat.le_of_eq ?_) hn
    clear hlv body hm hx hts hok Bd
    induction As with
    | nil => rfl
    | cons v t ih =>
      have e1 : lg_sl ((v :: t).map (tvl B sa)) = (if (tvl B sa v).category = 2 then [Slot.val (tvl B sa v), Slot.second] else [Slot.val (tvl B sa v)]) ++ lg_sl (t.map (tvl B sa)) := rfl
      rw [e1, List.length_append, ih (by rw [List.map_cons, List.sum_cons] at hn; omega), List.map_cons, List.sum_cons, tvl_cat]
      rcases v with v | v | v | v | v <;> rfl
  have hl := lv_entry (As.map (tvl B sa)) hlen
  rw [lg_entry_eq]
  generalize (lg_sl (As.map (tvl B sa)) ++ List.replicate (maxL - (lg_sl (As.map (tvl B sa))).length) Slot.unset).toArray = ls at hl ⊢
  have hargs : ∀ (vs : List Lv) (i : Nat), lv_args i (vs.map (tvl B sa)) = (largs i vs).map (fun q => (q.1, tvl B sa q.2)) := by
    intro vs
    induction vs with
    | nil => intro i; rfl
    | cons v t ih =>
      intro i
      show (i, tvl B sa v) :: lv_args (if (tvl B sa v).category = 2 then i + 2 else i + 1) (t.map (tvl B sa)) = (i, tvl B sa v) :: (largs (if lcat v = 2 then i + 2 else i + 1) t).map (fun q => (q.1, tvl B sa q.2))
      rw [tvl_cat, ih]
  rw [hargs, hlv] at hl
  exact body p e s m _ below meth c hok hnm r σ' hx s.heap [] ls hm va_S.rf hl
/-- every word that the tables tell is one that a callee may keep -/
theorem all_good (y : MethodName) {cc : ByteArray} {n : Nat} {ret : Option FieldType} {W0 : List Cond} (hg : wsL_law.all goodWord = true) (hsub : ∀ w ∈ wsL_law, w ∈ W0) (h : Cond.code y cc n ret ∈ wsL_law) : GoodIn W0 (Cond.code y cc n ret :: wsL_law) := by
  intro w hw
  rcases List.mem_cons.mp hw with rfl | hw
  · exact ⟨hsub _ h, good_of_word (List.all_eq_true.mp hg _ h)⟩
  · exact ⟨hsub _ hw, good_of_word (List.all_eq_true.mp hg _ hw)⟩
/-- a link to a method, own or a nest mate's -/
def LkM (own : String) (idx : Nat) (y : MethodName) : Prop := Cond.methodLink own idx y ∈ wsL_law ∨ ∃ host, Cond.methodLinkNest own idx y host ∈ nwL
/-- the words of a callee -/
def Cal (y : MethodName) (cc : ByteArray) (n : Nat) (ret : Option FieldType) (k : Nat) : Prop := Cond.code y cc n ret ∈ wsL_law ∧ Cond.initialized y.cls ∈ wsL_law ∧ y.cls ≠ "java/lang/invoke/MethodHandle" ∧ y.cls ≠ "java/lang/invoke/VarHandle" ∧ (parseMethodDescriptor y.desc).map (fun d => d.parameters.length) = some k
section CALL
variable {α : Type} {p : Program} {l : Launch} {e : Env} {R : Room} {s : State} {m : MethodId} {args : Array Value} {below : List Frame} {meth : Method} {c : Code} {B : Nat} {D : va_G} {cA : Nat → ClassId} {sa : Nat → Nat} {cc : ByteArray} {own : String} {nL : Nat} {ret : Option FieldType} {rv : α → Option Value} {mc ms ce sl pc : Nat} {lv : List (Nat × Lv)} {σ : Sg}
theorem runQ {γ : Type} {rvy : γ → Option Value} {v0 : γ} {σ1 : Sg} {H : Heap} {locs : List Loc} {ls : Array Slot} {stv restv : List Value} {a : Array Value} {mc1 ms1 : Nat} {Q : State → Prop} (hr : va_Run p l e R s m args below meth c H locs ce sl mc1 ms1 (F0 m pc ls stv) restv (Qr B D cA rvy v0 σ1 a) (fun q => B ≤ q)) (hS : va_S (fun q => B ≤ q) s.heap H locs)
    (kk : ∀ (H1 : Heap) (locs1 : List Loc), Hm B D cA σ1 H1 → va_S (fun q => B ≤ q) s.heap H1 locs1 → W p l e R s m args below meth c H1 locs1 (ce + mc1) (sl + ms1) Q (F0 m (pc + 3) ls ((rvy v0).toList ++ restv))) : W p l e R s m args below meth c H locs ce sl Q (F0 m pc ls stv) := by
  intro T hT X
  obtain ⟨v, st₀, t, T', L, h0, X', hL, e1, e2, ⟨hv, hmt, hz, hk⟩, st⟩ := hr T hT X
  cases hv
  rw [h0] at hz hk
  obtain ⟨t2, a1, b1⟩ := kk T'.heap (locs ++ L) (by rw [e1]; exact hmt) ⟨Nat.le_trans hS.1 (by rw [e1]; exact hz), fun q h1 h2 => by rw [e1, hk q (Nat.lt_of_lt_of_le h1 hS.1) h2]; exact hS.2.1 q h1 h2, fun q hq => by
      rcases List.mem_append.mp hq with h | h
      · exact hS.2.2 q h
      · exact hL q h⟩ T' rfl X'
  exact ⟨t2, st t2 a1, b1⟩
theorem roomS {B : Nat} {sa : Nat → Nat} {m : MethodId} {pc : Nat} {ls : Array Slot} {stv : List Value} {st : List Lv} (h : (st.map lcat).sum ≤ 8) : 2 * (F0 m pc ls stv).monitorRoom + ((st.map (tvl B sa)).map fun v => v.category).sum ≤ 8 := by
  refine lv_room ?_
  rw [List.map_map]
  have e : ((fun v : Value => v.category) ∘ tvl B sa) = lcat := funext fun v => tvl_cat B sa v
  rw [e]
  exact h
/-- a static method -/
theorem k_callS {γ : Type} {rvy : γ → Option Value} {toL : γ → List Lv} {y : MethodName} {cy : ByteArray} {ny : Nat} {ry : Option FieldType} {rm : Room} {As st stk : List Lv} {idx mc1 ms1 : Nat} {xg : Option (γ × Sg)} {f : γ → Sg → Option (α × Sg)} (h : Ok (p, l, e, R, s, m, args, below, meth, c, B, D, cA, sa) cc own nL ret) (hC : Ct l B D cA sa y cy ny ry rm rvy As σ mc1 ms1 xg) (hto : ∀ v, (rvy v).toList = (toL v).map (tvl B sa)) (hcal : Cal y cy ny ry As.length) (hstat : Cond.static y ∈ wsL_law) (hlk : LkM own idx y) (hg : wsL_law.all goodWord = true) (hrm : rm.cells = mc1 ∧ rm.slots = ms1 ∧ rm.frames + 1 ≤ R.frames ∧ 8 + (ny + 11) + rm.locals ≤ R.locals) (hR : ce + mc1 ≤ R.cells ∧ sl + ms1 ≤ R.slots) (hstk : As.reverse ++ st = stk) (hcat : (st.map lcat).sum ≤ 8) (hd : decode cc pc = .ok (.invokestatic idx, 3))
    (k : ∀ v σ1, Wq (p, l, e, R, s, m, args, below, meth, c, B, D, cA, sa) rv nL mc ms (ce + mc1) (sl + ms1) (pc + 3) lv (toL v ++ st) σ1 (f v σ1)) : Wq (p, l, e, R, s, m, args, below, meth, c, B, D, cA, sa) rv nL mc ms ce sl pc lv stk σ (cl xg f) := by
  subst hstk
  have h' := h
  obtain ⟨hx, hb, hml, hr, ho, ht, hK, hA, hn, hst, hlck⟩ := h
  obtain ⟨c1, c2, c3, c4, c5⟩ := hcal
  intro r σ' hxx H locs ls hm hS hl
  cases xg with
  | none => simp [cl] at hxx
  | some q =>
    obtain ⟨v0, σ1⟩ := q
    have hM := hC v0 σ1 rfl
    have hG : GoodIn wsL_law (Cond.code y cy ny ry :: wsL_law) := all_good y hg (fun _ h => h) c1
    have hp : PreS s H (va_Pc (As.map (tvl B sa)) (Bw B D cA sa σ)) (As.map (tvl B sa)) := ⟨Bw.blind _, fun U hU hW => ⟨rfl, Bw.at h' hm hS hU hW⟩⟩
    have hlen : (As.map (tvl B sa)).length = As.length := List.length_map ..
    have hstv : (F0 m pc ls ((As.reverse ++ st).map (tvl B sa))).stack = (As.map (tvl B sa)).reverse ++ st.map (tvl B sa) := by
      show (As.reverse ++ st).map (tvl B sa) = _
      rw [List.map_append, List.map_reverse]
    have hfin : ∀ (H1 : Heap) (locs1 : List Loc), Hm B D cA σ1 H1 → va_S (fun q => B ≤ q) s.heap H1 locs1 → W p l e R s m args below meth c H1 locs1 (ce + mc1) (sl + ms1) (MQ below (Qr B D cA rv r σ') args s mc ms (fun q => B ≤ q)) (F0 m (pc + 3) ls ((rvy v0).toList ++ st.map (tvl B sa))) := by
      intro H1 locs1 hm1 hS1
      have := k v0 σ1 r σ' hxx H1 locs1 ls hm1 hS1 hl
      rw [List.map_append, ← hto] at this
      exact this
    rcases hlk with hl1 | ⟨host, hl1⟩
    · exact runQ (va_runS ⟨hx, hb, hml, ho, ht⟩ hM ⟨callB_of As.length ht hG rfl hrm.1 hrm.2.1 (ht _ c2) (ht _ hl1) ⟨c3, c4, c5⟩ hrm.2.2, ht _ hstat⟩ hp rfl hlen hl.1 hstv (roomS hcat) hd hR) hS hfin
    · exact runQ (va_runSN (host := host) ⟨hx, hb, hml, ho, ht⟩ hM ⟨va_cnB As.length ht hG rfl hrm.1 hrm.2.1 (hn _ hl1) (ht _ c2) ⟨c3, c4, c5⟩ hrm.2.2, ht _ hstat, trivial⟩ hp rfl hlen hl.1 hstv (roomS hcat) hd hR) hS hfin
/-- a method of an object of class c0 -/
theorem k_callV {γ : Type} {rvy : γ → Option Value} {toL : γ → List Lv} {y : MethodName} {cy : ByteArray} {ny : Nat} {ry : Option FieldType} {rm : Room} {As st stk : List Lv} {x0 : Option Nat} {c0 N0 : Nat} {C0 : String} {T0 : u_T} {idx mc1 ms1 : Nat} {xg : Nat → Option (γ × Sg)} {f : γ → Sg → Option (α × Sg)} (h : Ok (p, l, e, R, s, m, args, below, meth, c, B, D, cA, sa) cc own nL ret) (hC : ∀ a, Ct l B D cA sa y cy ny ry rm rvy (LR (some a) :: As) σ mc1 ms1 (xg a)) (hto : ∀ v, (rvy v).toList = (toL v).map (tvl B sa)) (hcal : Cal y cy ny ry As.length) (hcl : vwCl[c0]? = some (C0, T0, N0)) (hc20 : c0 < 20) (hinst : Cond.instanceMethod y ∈ wsL_law) (hsel : Cond.selects C0 y y ∈ wsL_law) (hlk : LkM own idx y) (hg : wsL_law.all goodWord = true) (hrm : rm.cells = mc1 ∧ rm.slots = ms1 ∧ rm.frames + 1 ≤ R.frames ∧ 8 + (ny + 11) + rm.locals ≤ R.locals) (hR : ce + mc1 ≤ R.cells ∧ sl + ms1 ≤ R.slots) (hstk : As.reverse ++ LR x0 :: st = stk) (hcat : (st.map lcat).sum ≤ 8) (hd : decode cc pc = .ok (.invokevirtual idx, 3))
    (k : ∀ v σ1, Wq (p, l, e, R, s, m, args, below, meth, c, B, D, cA, sa) rv nL mc ms (ce + mc1) (sl + ms1) (pc + 3) lv (toL v ++ st) σ1 (f v σ1)) : Wq (p, l, e, R, s, m, args, below, meth, c, B, D, cA, sa) rv nL mc ms ce sl pc lv stk σ (cv σ c0 x0 (fun a => cl (xg a) f)) := by
  subst hstk
  have h' := h
  obtain ⟨hx, hb, hml, hr, ho, ht, hK, hA, hn, hst, hlck⟩ := h
  obtain ⟨c1, c2, c3, c4, c5⟩ := hcal
  intro r σ' hxx H locs ls hm hS hl
  cases x0 with
  | none => simp [cv] at hxx
  | some a =>
    simp only [cv] at hxx
    by_cases hz : kd a = c0 ∧ a < sN σ
    · rw [if_pos hz] at hxx
      cases hq : xg a with
      | none => rw [hq] at hxx; simp [cl] at hxx
      | some q =>
        rw [hq] at hxx
        obtain ⟨v0, σ1⟩ := q
        have hM := hC a v0 σ1 hq
        have hG : GoodIn wsL_law (Cond.code y cy ny ry :: wsL_law) := all_good y hg (fun _ h => h) c1
        have hat := hm.2 a hz.2
        rw [cel_obj hz.1 hc20] at hat
        have hp : PreV s H C0 (B + a) (va_Pc ((LR (some a) :: As).map (tvl B sa)) (Bw B D cA sa σ)) (As.map (tvl B sa)) := ⟨Bw.blind _, va_recv hK (va_P1 hat) hcl (q0 := 0) rfl, fun U hU hW => ⟨rfl, Bw.at h' hm hS hU hW⟩⟩
        have hlen : (As.map (tvl B sa)).length = As.length := List.length_map ..
        have hstv : (F0 m pc ls ((As.reverse ++ LR (some a) :: st).map (tvl B sa))).stack = (As.map (tvl B sa)).reverse ++ .ref (B + a) :: st.map (tvl B sa) := by
          show (As.reverse ++ LR (some a) :: st).map (tvl B sa) = _
          rw [List.map_append, List.map_reverse]
          rfl
        have hfin : ∀ (H1 : Heap) (locs1 : List Loc), Hm B D cA σ1 H1 → va_S (fun q => B ≤ q) s.heap H1 locs1 → W p l e R s m args below meth c H1 locs1 (ce + mc1) (sl + ms1) (MQ below (Qr B D cA rv r σ') args s mc ms (fun q => B ≤ q)) (F0 m (pc + 3) ls ((rvy v0).toList ++ st.map (tvl B sa))) := by
          intro H1 locs1 hm1 hS1
          have := k v0 σ1 r σ' hxx H1 locs1 ls hm1 hS1 hl
          rw [List.map_append, ← hto] at this
          exact this
        rcases hlk with hl1 | ⟨host, hl1⟩
        · exact runQ (va_runV ⟨hx, hb, hml, ho, ht⟩ hM ⟨callB_of As.length ht hG rfl hrm.1 hrm.2.1 (ht _ c2) (ht _ hl1) ⟨c3, c4, c5⟩ hrm.2.2, ht _ hinst, ht _ hsel⟩ hp rfl hlen hl.1 hstv (roomS hcat) hd hR) hS hfin
        · exact runQ (va_runVN (host := host) ⟨hx, hb, hml, ho, ht⟩ hM ⟨va_cnB As.length ht hG rfl hrm.1 hrm.2.1 (hn _ hl1) (ht _ c2) ⟨c3, c4, c5⟩ hrm.2.2, ht _ hinst, ht _ hsel⟩ hp rfl hlen hl.1 hstv (roomS hcat) hd hR) hS hfin
    · rw [if_neg hz] at hxx; cases hxx
end CALL
