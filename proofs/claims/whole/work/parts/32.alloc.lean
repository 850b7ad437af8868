/-! rows that make cells: the cells from n on are blank, a new one lies at b + n -/
def jI0 : j_M := fun c k => if c = 208 ∧ k = 2 then -1 else 0
def j_Bl (n : Nat) (I : j_M) (P : j_R) : Prop := (∀ c, n ≤ c → I c = jI0 c) ∧ ∀ c, n ≤ c → P c = fun _ => none
def j_AO (U : State) : Prop := va_Nw (.arrayOver (.object "PleasureGarden$Party")) U ∧ va_Nw (.arrayOver (.array .int)) U
theorem j_Nw_over {ty : FieldType} {s U : State} (hW : s.WarmedH U.vm) (h : va_Nw (.arrayOver ty) s) : va_Nw (.arrayOver ty) U :=
  (show (Cond.arrayOver ty).before #[] (s.setVm U.vm) = true by rw [Cond.arrayOver_setVmC hW.alike]; exact h)
theorem j_AO.warm {s U : State} (hW : s.WarmedH U.vm) (h : j_AO s) : j_AO U := ⟨j_Nw_over hW h.1, j_Nw_over hW h.2⟩
theorem j_Nw_same {ty : FieldType} {u U : State} (hv : u.vm = U.vm) (h : va_Nw (.arrayOver ty) u) : va_Nw (.arrayOver ty) U := by
  have h1 : (Cond.arrayOver ty).before #[] (u.setVm U.vm) = true := by rw [← hv]; exact h
  exact h1
theorem j_AO.same {u U : State} (hv : u.vm = U.vm) (h : j_AO u) : j_AO U := ⟨j_Nw_same hv h.1, j_Nw_same hv h.2⟩
theorem j_Bl.wr {n c0 k : Nat} {v : Int32} {I : j_M} {P : j_R} (h : j_Bl n I P) (hc : c0 < n) : j_Bl n (j_wr I c0 k v) P := ⟨fun c hc2 => by rw [j_wr_cell I k v (by omega)]; exact h.1 c hc2, h.2⟩
theorem j_Bl.wp {n c0 k : Nat} {v : Option Nat} {I : j_M} {P : j_R} (h : j_Bl n I P) (hc : c0 < n) : j_Bl n I (j_wp P c0 k v) := ⟨h.1, fun c hc2 => by rw [j_wp_cell P k v (by omega)]; exact h.2 c hc2⟩
theorem j_Bl.le {n n' : Nat} {I : j_M} {P : j_R} (h : j_Bl n I P) (hn : n ≤ n') : j_Bl n' I P := ⟨fun c hc => h.1 c (by omega), fun c hc => h.2 c (by omega)⟩
theorem j_ws_succ (aC : Nat → ClassId) (b n : Nat) (I : j_M) (P : j_R) : j_ws aC b (n + 1) I P = j_ws aC b n I P ++ [(b + n, j_en aC b I P n)] := by
  simp [j_ws, List.range_succ]
theorem j_grow {g : j_G} {b n : Nat} {I : j_M} {P : j_R} {H H1 : Heap} (h : j_Rep g b n I P H) (hz : H1.size = b + n + 1) (ho : ∀ q, q < b + n → H1[q]? = H[q]?) (hc : va_at g.1 j_cl (b + n, j_en g.2.1 b I P n) H1) : j_Rep g b (n + 1) I P H1 := by
  refine ⟨by omega, fun q hq => (ho q (by omega)).trans (h.2.1 q hq), ?_⟩
  rw [j_ws_succ]
  refine va_P.app (fun k q hk => ?_) (fun k q hk => ?_)
  · have := (h.2.2 k q hk).lt
    rw [h.1] at this
    exact (h.2.2 k q hk).kept (ho q.1 this)
  · have h0 : k < 1 := (List.getElem?_eq_some_iff.mp hk).1
    rw [show k = 0 by omega] at hk
    cases hk
    exact hc
theorem j_S_grow {b n : Nat} {H0 H H1 : Heap} {locs : List Loc} (h : va_S (fun q => b ≤ q) H0 H locs) (hz : H.size ≤ H1.size) (hn : b ≤ H.size) (ho : ∀ q, q < H.size → H1[q]? = H[q]?) : va_S (fun q => b ≤ q) H0 H1 locs :=
  ⟨Nat.le_trans h.1 hz, fun q h1 h2 => by rw [ho q (by have : ¬ b ≤ q := h2; omega)]; exact h.2.1 q h1 h2, h.2.2⟩
def j_dv (ci n k : Nat) : Value := if j_fk ci k = 0 then .int (jI0 n k) else .null
theorem j_fv_blank {b n ci k : Nat} {I : j_M} {P : j_R} (hB : j_Bl n I P) (h2 : j_fk ci k = 0 ∨ j_fk ci k = 1 ∨ jI0 n k < 0) : j_fv b I P ci n k = j_dv ci n k := by
  unfold j_fv j_dv
  rw [hB.1 n (Nat.le_refl n), hB.2 n (Nat.le_refl n)]
  by_cases h0 : j_fk ci k = 0
  · simp [h0]
  · by_cases h1 : j_fk ci k = 1
    · simp [h1, va_rf]
    · have h3 : jI0 n k < 0 := by
        rcases h2 with h | h | h
        · exact absurd h h0
        · exact absurd h h1
        · exact h
      simp [h0, h1, h3]
section JW6
variable {p : Program} {l : Launch} {e : Env} {R : Room} {s : State} {m : MethodId} {args : Array Value} {below : List Frame} {meth : Method} {c : Code} {nL : Nat} {g : j_G} {b n cells slots d : Nat} {Q : State → Prop} {I : j_M} {P : j_R} {pc : Nat} {lv lv' : List (Option Value)} {st : List Value} {cc : ByteArray} {own : String} {rt : Option FieldType}
theorem j_new (X : j_X p R s m args meth c g b d cc nL own rt) (hB : j_Bl n I P) {C : String} {T : u_T} {N ci i : Nat} (ty0 : Nat → FieldType) (hto : ∀ k, k < N → parseFieldDescriptor (T k).2.2.1 = some (ty0 k)) (hin : ∀ w ∈ u_ws C T N, w ∈ j_T) (hC : j_cl[ci]? = some (C, T, N)) (hs : j_sh n = (0, ci, N)) (hl : Cond.classLink own i C ∈ j_T) (hq : Cond.instantiable C N ∈ j_T) (hini : Cond.initialized C ∈ j_T)
    (hdef : ∀ k, k < N → (j_fk ci k = 0 ∨ j_fk ci k = 1 ∨ jI0 n k < 0) ∧ j_dv ci n k = defaultValue (ty0 k)) (hcells : cells + 1 ≤ R.cells) (hslots : slots + N ≤ R.slots) (hd : decode cc pc = .ok (.new i, 3))
    (kk : j_W p l e R s m args below meth c nL g b (n + 1) (cells + 1) (slots + N) Q I P (pc + 3) lv (.ref (b + n) :: st)) : j_W p l e R s m args below meth c nL g b n cells slots Q I P pc lv st := by
  intro H locs ls h1 h2 h3
  have hKn := X.2.2.2.1.1.1 ci _ hC
  refine W.newcK X.1.1 X.1.2.1 X.1.2.2.2.1 (X.1.2.2.2.2 _ hl) (X.1.2.2.2.2 _ hq) (X.1.2.2.2.2 _ hini) rfl hd hcells hslots hKn.2.1 h1.1 fun H1 kC hkC e1 z1 o1 => ?_
  refine kk H1 locs ls (j_grow h1 z1 o1 ?_) (j_S_grow (n := n) h2 (by rw [h1.1]; omega) (by rw [h1.1]; omega) (by rw [h1.1]; exact o1)) h3
  rw [j_en_obj hs]
  refine ⟨_, hC, ?_⟩
  refine (u_born ty0 X.1.2.2.2.2 hin hKn hkC e1 hto).to fun k hk => ?_
  simp [vp_V, hk, j_fv_blank hB (hdef k hk).1, (hdef k hk).2]
theorem j_newarr (X : j_X p R s m args meth c g b d cc nL own rt) (hB : j_Bl n I P) (hn208 : n ≠ 208) {N t : Nat} {N' : Int32} {atype : ArrayType} {ty : FieldType} (hty : newarray.typeOf atype = ty) (ha : Cond.arrayClass (newarray.typeOf atype) ∈ j_T) (hra : s.vm.findClass ("[" ++ (newarray.typeOf atype).toString) = some (g.2.1 t)) (hdv : defaultValue ty = .int 0) (hs : j_sh n = (1, t, N)) (hp : ¬ N' < 0) (hN : N'.toNatClampNeg = N) (hbytes : N * componentBytes (newarray.typeOf atype) ≤ 536870912) (hcells : cells + 1 ≤ R.cells) (hslots : slots + N ≤ R.slots) (hd : decode cc pc = .ok (.newarray atype, 2))
    (kk : j_W p l e R s m args below meth c nL g b (n + 1) (cells + 1) (slots + N) Q I P (pc + 2) lv (.ref (b + n) :: st)) : j_W p l e R s m args below meth c nL g b n cells slots Q I P pc lv (.int N' :: st) := by
  intro H locs ls h1 h2 h3
  refine va_newaK X.1.1 X.1.2.1 (X.1.2.2.2.2 _ ha) rfl hd rfl hp hN hbytes hcells hslots h1.1 fun H1 cA e1 z1 o1 hAr hNm => ?_
  refine kk H1 locs ls (j_grow h1 z1 o1 ?_) (j_S_grow (n := n) h2 (by rw [h1.1]; omega) (by rw [h1.1]; omega) (by rw [h1.1]; exact o1)) h3
  rw [j_en_arr hs]
  have hcA : cA = g.2.1 t := Option.some.inj (hNm.symm.trans hra)
  subst hcA
  show H1[b + n]? = some (vp_cell _ _)
  rw [e1, vp_cell_i]
  refine congrArg some (congrArg (arrV _ N) (funext fun j => ?_))
  rw [hty, hdv, hB.1 n (Nat.le_refl n)]
  simp [jI0, hn208]
theorem j_newI (X : j_X p R s m args meth c g b d cc nL own rt) (hB : j_Bl n I P) (hn208 : n ≠ 208) {N : Nat} {N' : Int32} (hs : j_sh n = (1, 0, N)) (hp : ¬ N' < 0) (hN : N'.toNatClampNeg = N) (hbytes : N * componentBytes (newarray.typeOf .int) ≤ 536870912) (hcells : cells + 1 ≤ R.cells) (hslots : slots + N ≤ R.slots) (hd : decode cc pc = .ok (.newarray .int, 2)) (kk : j_W p l e R s m args below meth c nL g b (n + 1) (cells + 1) (slots + N) Q I P (pc + 2) lv (.ref (b + n) :: st)) : j_W p l e R s m args below meth c nL g b n cells slots Q I P pc lv (.int N' :: st) :=
  j_newarr (atype := .int) X hB hn208 rfl jqa_int (X.2.2.2.1.1.2 0 _ rfl).2 rfl hs hp hN hbytes hcells hslots hd kk
theorem j_newZ (X : j_X p R s m args meth c g b d cc nL own rt) (hB : j_Bl n I P) (hn208 : n ≠ 208) {N : Nat} {N' : Int32} (hs : j_sh n = (1, 1, N)) (hp : ¬ N' < 0) (hN : N'.toNatClampNeg = N) (hbytes : N * componentBytes (newarray.typeOf .boolean) ≤ 536870912) (hcells : cells + 1 ≤ R.cells) (hslots : slots + N ≤ R.slots) (hd : decode cc pc = .ok (.newarray .boolean, 2)) (kk : j_W p l e R s m args below meth c nL g b (n + 1) (cells + 1) (slots + N) Q I P (pc + 2) lv (.ref (b + n) :: st)) : j_W p l e R s m args below meth c nL g b n cells slots Q I P pc lv (.int N' :: st) :=
  j_newarr (atype := .boolean) X hB hn208 rfl jqa_boolean (X.2.2.2.1.1.2 1 _ rfl).2 rfl hs hp hN hbytes hcells hslots hd kk
theorem j_newB (X : j_X p R s m args meth c g b d cc nL own rt) (hB : j_Bl n I P) (hn208 : n ≠ 208) {N : Nat} {N' : Int32} (hs : j_sh n = (1, 2, N)) (hp : ¬ N' < 0) (hN : N'.toNatClampNeg = N) (hbytes : N * componentBytes (newarray.typeOf .byte) ≤ 536870912) (hcells : cells + 1 ≤ R.cells) (hslots : slots + N ≤ R.slots) (hd : decode cc pc = .ok (.newarray .byte, 2)) (kk : j_W p l e R s m args below meth c nL g b (n + 1) (cells + 1) (slots + N) Q I P (pc + 2) lv (.ref (b + n) :: st)) : j_W p l e R s m args below meth c nL g b n cells slots Q I P pc lv (.int N' :: st) :=
  j_newarr (atype := .byte) X hB hn208 rfl jqa_byte (X.2.2.2.1.1.2 2 _ rfl).2 rfl hs hp hN hbytes hcells hslots hd kk
theorem j_newP (X : j_X p R s m args meth c g b d cc nL own rt) (hO : j_AO s) (hB : j_Bl n I P) {N i : Nat} {N' : Int32} (hl : Cond.classLink own i "PleasureGarden$Party" ∈ j_T) (hs : j_sh n = (2, 3, N)) (hp : ¬ N' < 0) (hN : N'.toNatClampNeg = N) (hbytes : N * 4 ≤ 536870912) (hcells : cells + 1 ≤ R.cells) (hslots : slots + N ≤ R.slots) (hd : decode cc pc = .ok (.anewarray i, 3)) (kk : j_W p l e R s m args below meth c nL g b (n + 1) (cells + 1) (slots + N) Q I P (pc + 3) lv (.ref (b + n) :: st)) : j_W p l e R s m args below meth c nL g b n cells slots Q I P pc lv (.int N' :: st) := by
  subst hN
  intro H locs ls h1 h2 h3
  refine W.anew (C := "PleasureGarden$Party") X.1.1 X.1.2.1 X.1.2.2.2.1 (X.1.2.2.2.2 _ hl) hO.1 rfl hd rfl hp hbytes hcells hslots fun cA kA comp q1 q2 q3 q4 => ?_
  obtain ⟨kA', comp', -, -, -, r4⟩ := (X.2.2.2.1.1.2 3 _ rfl).2
  have hcA : cA = g.2.1 3 := Option.some.inj (q1.symm.trans r4)
  subst hcA
  have ho : ∀ q, q < b + n → (H.push ({ cls := g.2.1 3, slots := Array.replicate N'.toNatClampNeg .null, vm := .none } : Cell))[q]? = H[q]? := fun q hq => by
    rw [← h1.1] at hq
    rw [Array.getElem?_push_lt hq, Array.getElem?_eq_getElem hq]
  refine (show W p l e R s m args below meth c _ locs _ _ Q (F0 m (pc + 3) ls (.ref H.size :: st)) from ?_)
  rw [h1.1]
  refine kk _ locs ls (j_grow h1 (by simp [h1.1]) ho ?_) (j_S_grow (n := n) h2 (by simp) (by rw [h1.1]; omega) (by rw [h1.1]; exact ho)) h3
  rw [j_en_ref hs]
  show (H.push _)[b + n]? = some (vp_cell _ _)
  rw [vp_cell_q, ← h1.1, Array.getElem?_push_size, arrV_new]
  refine congrArg some (congrArg (arrV _ _) (funext fun j => ?_))
  rw [hB.2 n (Nat.le_refl n)]
  rfl
/-- a store of a party into the array of parties -/
theorem j_aast (X : j_X p R s m args meth c g b d cc nL own rt) {c0 N q0 : Nat} {i : Int32} (hs : j_sh c0 = (2, 3, N)) (hc : c0 < n) (hq : q0 < n) (hsq : j_sh q0 = (0, 4, 12)) (hi : j_ok i N = true) (hd : decode cc pc = .ok (.aastore, 1)) (kk : j_W p l e R s m args below meth c nL g b n cells slots Q I (j_wp P c0 (j_ix i) (some q0)) (pc + 1) lv st) : j_W p l e R s m args below meth c nL g b n cells slots Q I P pc lv (.ref (b + q0) :: .int i :: .ref (b + c0) :: st) := by
  intro H locs ls h1 h2 h3
  have he : (j_ws g.2.1 b n I P)[c0]? = some (b + c0, .inl (g.2.1 3, N, .inr (.inr (.inr (.inr (fun i => (P c0 i).map (fun q => b + q))))))) := by rw [j_ws_at hc, j_en_ref hs]
  have hv : (j_ws g.2.1 b n I P)[q0]? = some (b + q0, .inr (4, (List.range 12).map (j_fv b I P 4 q0))) := by rw [j_ws_at hq, j_en_obj hsq]
  have hw : va_P g.1 j_cl (j_ws g.2.1 b n I P) H := h1.2.2
  obtain ⟨r', hr', cellV, g1, g2, g3, -⟩ := hw q0 _ hv
  have hcls := (X.2.2.2.1.1.1 4 _ (rfl : j_cl[4]? = some (jR_Pa, jT_Pa, 12))).2
  obtain ⟨kA, comp, k1, k2, k3, -⟩ := (X.2.2.2.1.1.2 3 _ rfl).2
  have hcomp : comp = g.1.1 4 := Option.some.inj (k3.symm.trans hcls.1)
  subst hcomp
  obtain ⟨kC, hkC, -⟩ := hcls.2
  have hlt := j_ok_lt hi
  have h0 : ¬ i < 0 := fun q => j_ok_in hi (Or.inl q)
  refine W.aast X.1.1 X.1.2.1 (hw c0 _ he) (fun q h => by cases h) (fun h => by cases h) k1 k2 rfl hkC ⟨h0, by show _ < (arrV _ _ _).slots.size; rw [arrV_size]; exact hlt⟩ g1 (fun q h => by rw [g3] at h; cases h) (by rw [g2]; exact hkC) (by rw [g2]; exact va_assign hcls) rfl rfl hd fun H1 e1 z oq => ?_
  have key : (j_ws g.2.1 b n I P).set c0 (b + c0, .inl (g.2.1 3, N, .inr (.inr (.inr (.inr (fun j => (j_wp P c0 (j_ix i) (some q0) c0 j).map (fun q => b + q))))))) = j_ws g.2.1 b n I (j_wp P c0 (j_ix i) (some q0)) := by
    refine j_ws_set ?_ (fun x hx => j_en_neP x hx)
    rw [j_en_ref hs]
  refine kk H1 _ ls (j_Rep_of h1 z (fun q hq => oq q (show q ≠ b + c0 by omega)) (hw.set (j_ws_D (b := b)) he ?_ oq) key) (j_S_put h2 z oq (Nat.le_add_right b c0)) h3
  show H1[b + c0]? = some (vp_cell _ _)
  rw [e1, vp_cell_q, vp_cell_q, arrV_store]
  refine congrArg some (congrArg (arrV (g.2.1 3) N) (funext fun j => ?_))
  by_cases hj : j = i.toNatClampNeg
  · subst hj
    simp [updV, va_rf, j_wp, j_ix]
  · simp [updV, hj, j_wp, j_ix]
end JW6
