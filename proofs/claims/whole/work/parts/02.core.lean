/-! the core: a memory of numbers I and of references P over cells that lie one behind another; the machine at a pc with listed locals -/
abbrev j_M : Type := Nat → Nat → Int32
abbrev j_R : Type := Nat → Nat → Option Nat
def j_wr (I : j_M) (c k : Nat) (v : Int32) : j_M := fun x y => if x = c ∧ y = k then v else I x y
def j_wp (P : j_R) (c k : Nat) (v : Option Nat) : j_R := fun x y => if x = c ∧ y = k then v else P x y
def j_ix (i : Int32) : Nat := i.toNatClampNeg
def j_ok (i : Int32) (n : Nat) : Bool := decide (0 ≤ i ∧ i.toNatClampNeg < n)
theorem j_ok_in {i : Int32} {n : Nat} (h : j_ok i n = true) : vp_in i n := by
  have h2 := of_decide_eq_true h
  intro q
  rcases q with q | q
  · exact absurd h2.1 (by rw [Int32.le_iff_toInt_le]; rw [Int32.lt_iff_toInt_lt] at q; omega)
  · omega
theorem j_ok_lt {i : Int32} {n : Nat} (h : j_ok i n = true) : j_ix i < n := (of_decide_eq_true h).2
theorem j_wr_same (I : j_M) (c k : Nat) (v : Int32) : j_wr I c k v c k = v := by simp [j_wr]
theorem j_wr_cell (I : j_M) {c c' : Nat} (k : Nat) (v : Int32) (h : c' ≠ c) : j_wr I c k v c' = I c' := by
  funext y; simp [j_wr, h]
theorem j_wr_row (I : j_M) (c k : Nat) (v : Int32) : j_wr I c k v c = upd (I c) k v := by
  funext y; simp [j_wr, upd]
theorem j_wr_idx (I : j_M) (c : Nat) {k k' : Nat} (v : Int32) (h : k' ≠ k) : j_wr I c k v c k' = I c k' := by simp [j_wr, h]
/-- what a field holds -/
def j_fv (b : Nat) (I : j_M) (P : j_R) (ci c k : Nat) : Value :=
  if j_fk ci k = 0 then .int (I c k) else if j_fk ci k = 1 then va_rf ((P c k).map (fun q => b + q)) else if I c k < 0 then .null else .ref (b + j_ix (I c k))
def j_en (aC : Nat → ClassId) (b : Nat) (I : j_M) (P : j_R) (c : Nat) : va_E :=
  if (j_sh c).1 = 0 then .inr ((j_sh c).2.1, (List.range (j_sh c).2.2).map (j_fv b I P (j_sh c).2.1 c))
  else if (j_sh c).1 = 1 then .inl (aC (j_sh c).2.1, (j_sh c).2.2, .inl (I c))
  else .inl (aC (j_sh c).2.1, (j_sh c).2.2, .inr (.inr (.inr (.inr (fun i => (P c i).map (fun q => b + q))))))
def j_ws (aC : Nat → ClassId) (b n : Nat) (I : j_M) (P : j_R) : va_W := (List.range n).map (fun c => (b + c, j_en aC b I P c))
theorem j_ws_at {aC : Nat → ClassId} {b n : Nat} {I : j_M} {P : j_R} {c : Nat} (h : c < n) : (j_ws aC b n I P)[c]? = some (b + c, j_en aC b I P c) := by
  simp [j_ws, h]
theorem j_ws_D {aC : Nat → ClassId} {b n : Nat} {I : j_M} {P : j_R} : va_D (fun q => b ≤ q) (j_ws aC b n I P) := by
  have key : ∀ (i : Nat) (q : Nat × va_E), (j_ws aC b n I P)[i]? = some q → q.1 = b + i := by
    intro i q h
    have hl : i < n := by
      have := (List.getElem?_eq_some_iff.mp h).1
      simpa [j_ws] using this
    rw [j_ws_at hl] at h
    cases h; rfl
  refine ⟨fun i j p q hi hj hpq => ?_, fun k q hk => ?_⟩
  · have h1 := key i p hi
    have h2 := key j q hj
    omega
  · rw [key k q hk]; exact Nat.le_add_right b k
theorem j_ws_set {aC : Nat → ClassId} {b n : Nat} {I I' : j_M} {P P' : j_R} {c : Nat} {e : va_E} (he : e = j_en aC b I' P' c) (ho : ∀ x, x ≠ c → j_en aC b I P x = j_en aC b I' P' x) :
    (j_ws aC b n I P).set c (b + c, e) = j_ws aC b n I' P' := by
  apply List.ext_getElem?
  intro i
  by_cases hi : i < n
  · rw [j_ws_at hi]
    by_cases hc : i = c
    · subst hc
      rw [List.getElem?_set_self (by simp [j_ws, hi]), he]
    · rw [List.getElem?_set_ne (Ne.symm hc), j_ws_at hi, ho i hc]
  · rw [List.getElem?_eq_none (by simp [j_ws]; omega), List.getElem?_eq_none (by simp [j_ws]; omega)]
theorem j_en_ne {aC : Nat → ClassId} {b : Nat} {I : j_M} {P : j_R} {c k : Nat} {v : Int32} (x : Nat) (h : x ≠ c) : j_en aC b I P x = j_en aC b (j_wr I c k v) P x := by
  unfold j_en j_fv
  rw [j_wr_cell I k v h]
theorem j_wp_cell (P : j_R) {c c' : Nat} (k : Nat) (v : Option Nat) (h : c' ≠ c) : j_wp P c k v c' = P c' := by
  funext y; simp [j_wp, h]
theorem j_en_neP {aC : Nat → ClassId} {b : Nat} {I : j_M} {P : j_R} {c k : Nat} {v : Option Nat} (x : Nat) (h : x ≠ c) : j_en aC b I P x = j_en aC b I (j_wp P c k v) x := by
  unfold j_en j_fv
  rw [j_wp_cell P k v h]
theorem j_en_obj {aC : Nat → ClassId} {b : Nat} {I : j_M} {P : j_R} {c ci nf : Nat} (h : j_sh c = (0, ci, nf)) : j_en aC b I P c = .inr (ci, (List.range nf).map (j_fv b I P ci c)) := by
  simp [j_en, h]
theorem j_en_arr {aC : Nat → ClassId} {b : Nat} {I : j_M} {P : j_R} {c t nf : Nat} (h : j_sh c = (1, t, nf)) : j_en aC b I P c = .inl (aC t, nf, .inl (I c)) := by
  simp [j_en, h]
theorem j_en_ref {aC : Nat → ClassId} {b : Nat} {I : j_M} {P : j_R} {c t nf : Nat} (h : j_sh c = (2, t, nf)) : j_en aC b I P c = .inl (aC t, nf, .inr (.inr (.inr (.inr (fun i => (P c i).map (fun q => b + q)))))) := by
  simp [j_en, h]
theorem j_set_fs {f f' : Nat → Value} {n k : Nat} {v : Value} (hk : f' k = v) (ho : ∀ j, j ≠ k → f' j = f j) : ((List.range n).map f).set k v = (List.range n).map f' := by
  apply List.ext_getElem?
  intro i
  by_cases hi : i < n
  · by_cases hik : i = k
    · subst hik
      rw [List.getElem?_set_self (by simp [hi])]
      simp [hi, hk]
    · rw [List.getElem?_set_ne (Ne.symm hik)]
      simp [hi, ho i hik]
  · rw [List.getElem?_eq_none (by simp; omega), List.getElem?_eq_none (by simp; omega)]
/-- tables: the array classes; the nest mates' words; the one text constant -/
def j_ty (aC : Nat → ClassId) : List (ClassId × FieldType) := [(aC 0, .int), (aC 1, .boolean), (aC 2, .byte), (aC 3, .object "PleasureGarden$Party"), (aC 4, .array .int)]
abbrev j_G : Type := va_G × (Nat → ClassId) × Nat × Nat × Heap
def j_K (g : j_G) (b : Nat) (U : State) : Prop := va_K g.1 j_cl (j_ty g.2.1) U ∧ (∀ q ∈ j_nest, va_Nw (.methodLinkNest q.1 q.2.1 q.2.2 "PleasureGarden") U) ∧ vk_R "PleasureGarden$Reader" 70 "pmrngsct" g.2.2.1 U ∧ vk_S 1 [8] [[112, 109, 114, 110, 103, 115, 99, 116]] (fun _ => g.2.2.1) (fun _ => g.2.2.2.1) (fun q => b ≤ q) U g.2.2.2.2 ∧ va_Z "java/lang/String" "COMPACT_STRINGS" "Z" (.int 1) (fun q => b ≤ q) U g.2.2.2.2
theorem j_K.warm {g : j_G} {b : Nat} {s U : State} (hW : s.WarmedH U.vm) (h : j_K g b s) : j_K g b U :=
  ⟨h.1.moved hW.alike, fun q hq => va_Nw.warmM hW (h.2.1 q hq), h.2.2.1.warm hW, h.2.2.2.1.moved hW.alike, h.2.2.2.2.moved hW.alike⟩
theorem j_K.same {g : j_G} {b : Nat} {u U : State} (hv : u.vm = U.vm) (h : j_K g b u) : j_K g b U :=
  ⟨h.1.moved (by rw [hv]; exact Vm.Alike.refl _), fun q hq => va_Nw.same rfl hv (h.2.1 q hq), h.2.2.1.same hv.symm, h.2.2.2.1.moved (by rw [hv]; exact Vm.Alike.refl _), h.2.2.2.2.moved (by rw [hv]; exact Vm.Alike.refl _)⟩
def j_Rep (g : j_G) (b n : Nat) (I : j_M) (P : j_R) (H : Heap) : Prop := H.size = b + n ∧ (∀ q, q < b → H[q]? = g.2.2.2.2[q]?) ∧ va_P g.1 j_cl (j_ws g.2.1 b n I P) H
def j_Pre (g : j_G) (b n : Nat) (I : j_M) (P : j_R) (av : List Value) : Array Value → State → Prop := va_Pc av (fun U => j_Rep g b n I P U.heap ∧ j_K g b U)
def j_Post (g : j_G) (b n : Nat) (I : j_M) (P : j_R) (r : Option Value) : Array Value → State → Outcome → State → Prop := fun _ st oc t => oc = .returned r ∧ j_Rep g b n I P t.heap ∧ va_F (fun q => b ≤ q) st t
theorem j_Pre_blind {g : j_G} {b n : Nat} {I : j_M} {P : j_R} {av : List Value} : FrameBlind (j_Pre g b n I P av) := by
  intro a U f mk h
  obtain ⟨h1, h2, h3⟩ := h
  exact ⟨h1, h2, h3.same (U := U.calling f mk a) rfl⟩
def j_rm (d mc ms : Nat) : Room := { frames := d, cells := mc, slots := ms, locals := 40 * d }
def j_X (p : Program) (R : Room) (s : State) (m : MethodId) (args : Array Value) (meth : Method) (c : Code) (g : j_G) (b d : Nat) (cc : ByteArray) (nL : Nat) (own : String) (ret : Option FieldType) : Prop :=
  CallFix p m c cc nL s args j_T own ∧ meth.locks = false ∧ meth.sig.returnType = ret ∧ j_K g b s ∧ d ≤ R.frames ∧ 40 * d ≤ R.locals
/-- the locals: a list of what is known of each -/
def j_ls (ls : Array Slot) (nL : Nat) (lv : List (Option Value)) : Prop := ls.size = nL ∧ lv_wf ls ∧ ∀ (i : Nat) (v : Value), lv[i]? = some (some v) → ls[i]? = some (.val v)
def j_al (lv : List (Option Value)) : List (Nat × Value) := (List.range lv.length).filterMap (fun k => (lv[k]?.join).map (fun v => (k, v)))
theorem j_al_mem {lv : List (Option Value)} {k : Nat} {v : Value} : (k, v) ∈ j_al lv ↔ lv[k]? = some (some v) := by
  unfold j_al
  rw [List.mem_filterMap]
  constructor
  · rintro ⟨i, -, h⟩
    cases hx : lv[i]? with
    | none => rw [hx] at h; simp at h
    | some o =>
      rw [hx] at h
      cases o with
      | none => simp at h
      | some w =>
        simp at h
        obtain ⟨rfl, rfl⟩ := h
        exact hx
  · intro h
    exact ⟨k, List.mem_range.mpr (List.getElem?_eq_some_iff.mp h).1, by rw [h]; rfl⟩
theorem j_ls_has {ls : Array Slot} {nL : Nat} {lv : List (Option Value)} (h : j_ls ls nL lv) : lv_has ls nL (j_al lv) := ⟨h.1, h.2.1, fun q hq => h.2.2 q.1 q.2 (j_al_mem.mp hq)⟩
def j_cut (o : Option Value) : Option Value := match o with
  | some (.long _) => none
  | some (.double _) => none
  | o => o
theorem j_cut_some {o : Option Value} {v : Value} (h : j_cut o = some v) : o = some v ∧ ¬ v.category = 2 := by
  cases o with
  | none => cases h
  | some w => cases w <;> simp [j_cut] at h <;> subst h <;> exact ⟨rfl, by simp [Value.category]⟩
def j_s1 (lv : List (Option Value)) (i : Nat) (v : Value) : List (Option Value) := ((match i with | 0 => lv | k + 1 => lv.modify k j_cut) : List (Option Value)).set i (some v)
theorem j_s1_ok {ls' : Array Slot} {nL i : Nat} {lv : List (Option Value)} {v : Value} (h : lv_has ls' nL ((i, v) :: (j_al lv).filter (fun q => !(q.1 == i) && !(q.1 + 1 == i && q.2.category == 2)))) : j_ls ls' nL (j_s1 lv i v) := by
  refine ⟨h.1, h.2.1, fun j w hj => ?_⟩
  by_cases e : j = i
  · subst e
    have hw : w = v := by
      unfold j_s1 at hj
      rw [List.getElem?_set] at hj
      simp at hj
      exact hj.2.symm
    subst hw
    exact h.2.2 (j, w) List.mem_cons_self
  · unfold j_s1 at hj
    rw [List.getElem?_set_ne (Ne.symm e)] at hj
    have key : lv[j]? = some (some w) ∧ ¬ (j + 1 = i ∧ w.category = 2) := by
      cases i with
      | zero => exact ⟨hj, by omega⟩
      | succ k =>
        simp only [List.getElem?_modify] at hj
        by_cases hk : k = j
        · subst hk
          cases hx : lv[k]? with
          | none => rw [hx] at hj; simp at hj
          | some o =>
            rw [hx] at hj
            simp at hj
            obtain ⟨h1, h2⟩ := j_cut_some hj
            exact ⟨by rw [h1], fun q => h2 q.2⟩
        · simp [hk] at hj
          exact ⟨hj, by omega⟩
    refine h.2.2 (j, w) (List.mem_cons_of_mem _ (List.mem_filter.mpr ⟨j_al_mem.mpr key.1, ?_⟩))
    have h2 := key.2
    simp [e]
    by_cases h3 : j + 1 = i
    · exact Or.inr (fun h4 => h2 ⟨h3, h4⟩)
    · exact Or.inl h3
def j_s2 (lv : List (Option Value)) (i : Nat) (v : Value) : List (Option Value) := (j_s1 lv i v).set (i + 1) none
theorem j_s2_ok {ls' : Array Slot} {nL i : Nat} {lv : List (Option Value)} {v : Value} (h : lv_has ls' nL ((i, v) :: (j_al lv).filter (fun q => !(q.1 == i) && (!(q.1 == i + 1) && !(q.1 + 1 == i && q.2.category == 2))))) : j_ls ls' nL (j_s2 lv i v) := by
  have h1 : lv_has ls' nL ((i, v) :: (j_al (lv.set (i + 1) none)).filter (fun q => !(q.1 == i) && !(q.1 + 1 == i && q.2.category == 2))) := by
    refine ⟨h.1, h.2.1, fun q hq => ?_⟩
    rcases List.mem_cons.mp hq with rfl | hq
    · exact h.2.2 _ List.mem_cons_self
    · obtain ⟨h2, h3⟩ := List.mem_filter.mp hq
      have h4 := j_al_mem.mp h2
      have h5 : q.1 ≠ i + 1 := by
        intro e
        rw [e, List.getElem?_set] at h4
        simp at h4
      rw [List.getElem?_set_ne (Ne.symm h5)] at h4
      refine h.2.2 q (List.mem_cons_of_mem _ (List.mem_filter.mpr ⟨j_al_mem.mpr h4, ?_⟩))
      simp only [Bool.and_eq_true] at h3 ⊢
      refine ⟨h3.1, by simp [h5], h3.2⟩
  have h2 := j_s1_ok h1
  refine ⟨h2.1, h2.2.1, fun j w hj => h2.2.2 j w ?_⟩
  unfold j_s2 at hj
  by_cases e : j = i + 1
  · subst e
    rw [List.getElem?_set] at hj
    simp at hj
  · rw [List.getElem?_set_ne (Ne.symm e)] at hj
    unfold j_s1 at hj ⊢
    by_cases e2 : j = i
    · subst e2
      rw [List.getElem?_set] at hj ⊢
      cases j <;> simp at hj ⊢ <;> exact hj
    · rw [List.getElem?_set_ne (Ne.symm e2)] at hj ⊢
      cases i with
      | zero => rw [List.getElem?_set_ne (Ne.symm e)]; exact hj
      | succ k =>
        simp only [List.getElem?_modify] at hj ⊢
        rw [List.getElem?_set_ne (Ne.symm e)]
        exact hj
