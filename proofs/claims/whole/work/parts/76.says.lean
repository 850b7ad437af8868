/-! price texts: what the reference says of its steps -/
theorem x_inv {nm : Nat → Int32} {w : Nat} {x : Int32} {S S' : List Int32} (h : x_st nm w x S = some S') : (w = 1 ∧ S' = x :: S) ∨ (100 ≤ w ∧ ixn (w - 100) < 8 ∧ S' = nm (w - 100) :: S) ∨ (iop w ∧ ∃ a b S2, S = b :: a :: S2 ∧ S' = b_both w a b :: S2) := by
  by_cases c1 : w = 1
  · subst c1
    rw [x_num] at h
    exact Or.inl ⟨rfl, (Option.some.inj h).symm⟩
  · by_cases c2 : 100 ≤ w ∧ ixn (w - 100) < 8
    · refine Or.inr (Or.inl ⟨c2.1, c2.2, ?_⟩)
      obtain ⟨c, rfl⟩ : ∃ c, w = 100 + c := ⟨w - 100, by omega⟩
      rw [Nat.add_sub_cancel_left] at c2 ⊢
      rw [x_nam c2.2] at h
      exact (Option.some.inj h).symm
    · rcases S with _ | ⟨a, _ | ⟨b, S⟩⟩
      · have h2 : (if w = 1 then some [x] else if 100 ≤ w ∧ ixn (w - 100) < 8 then some [nm (w - 100)] else none) = some S' := h
        rw [if_neg c1, if_neg c2] at h2
        cases h2
      · have h2 : (if w = 1 then some [x, a] else if 100 ≤ w ∧ ixn (w - 100) < 8 then some [nm (w - 100), a] else none) = some S' := h
        rw [if_neg c1, if_neg c2] at h2
        cases h2
      · by_cases c3 : iop w
        · rw [x_op c3] at h
          exact Or.inr (Or.inr ⟨c3, b, a, S, rfl, (Option.some.inj h).symm⟩)
        · have h2 : (if w = 1 then some (x :: a :: b :: S) else if 100 ≤ w ∧ ixn (w - 100) < 8 then some (nm (w - 100) :: a :: b :: S) else if w = 40 ∨ w = 41 ∨ w = 42 ∨ w = 50 ∨ w = 51 ∨ w = 60 ∨ w = 61 then some (b_both w b a :: S) else none) = some S' := h
          rw [if_neg c1, if_neg c2, if_neg (show ¬ (w = 40 ∨ w = 41 ∨ w = 42 ∨ w = 50 ∨ w = 51 ∨ w = 60 ∨ w = 61) from c3)] at h2
          cases h2
theorem y_cons {nm : Nat → Int32} {q : Nat × Int32} {r : List (Nat × Int32)} {sk : Int32} {S : List Int32} : y_says nm (q :: r) sk S = (if q.1 = 3 then (if sk = 0 then S.getLast? else y_says nm r 0 []) else if q.1 = 2 then S.getLast?.bind (fun x => y_says nm r (if x = 0 then 1 else 0) []) else (x_st nm q.1 q.2 S).bind (fun S' => y_says nm r sk S')) := rfl
theorem y_nil {nm : Nat → Int32} {sk : Int32} {S : List Int32} : y_says nm [] sk S = some 0 := rfl
def z_pl (S : List Int32) (g : Nat → Int32) : Prop := ∀ j x, S.reverse[j]? = some x → g j = x
theorem pl_push {S : List Int32} {g : Nat → Int32} (h : z_pl S g) (x : Int32) : z_pl (x :: S) (upd g S.length x) := by
  intro j y hj
  rw [List.reverse_cons, List.getElem?_append, List.length_reverse] at hj
  by_cases c : j < S.length
  · rw [if_pos c] at hj
    rw [upd_ne _ _ (by omega)]; exact h j y hj
  · rw [if_neg c] at hj
    have e : j - S.length = 0 := by
      rcases Nat.eq_zero_or_pos (j - S.length) with z | z
      · exact z
      · rw [List.getElem?_eq_none (by simp; omega)] at hj; cases hj
    rw [e] at hj
    rw [show j = S.length by omega, upd_at]
    exact Option.some.inj hj
theorem pl_tail {S : List Int32} {g : Nat → Int32} {x : Int32} (h : z_pl (x :: S) g) : z_pl S g ∧ g S.length = x := by
  refine ⟨fun j y hj => h j y ?_, h S.length x ?_⟩
  · have hl : j < S.reverse.length := (List.getElem?_eq_some_iff.mp hj).1
    rw [List.reverse_cons, List.getElem?_append, if_pos hl]
    exact hj
  · rw [List.reverse_cons, List.getElem?_append, List.length_reverse, if_neg (Nat.lt_irrefl _), Nat.sub_self]
    rfl
theorem pl_last {S : List Int32} {g : Nat → Int32} {x : Int32} (h : z_pl S g) (hl : S.getLast? = some x) : g 0 = x := by
  refine h 0 x ?_
  rw [← List.head?_eq_getElem?, List.head?_reverse]
  exact hl
theorem l_says {F o : Nat} {nm : Nat → Int32} {K : j_M} {L : List (Nat × Int32)} {v : Int32} (hF : 20000000 < F) (ho : o < 30) (hlen : L.length ≤ 125) (h249 : K 249 o = nI L.length) (hst : ∀ i q, L[i]? = some q → K 250 (130 * o + i) = nI q.1 ∧ K 251 (130 * o + i) = q.2) (hnm : ∀ c, ixn c < 8 → K 253 c = nm c) (hv : y_says nm L 0 [] = some v) : ∃ g, f_M_says F (nI o) K = some (v, j_rw K 254 g) := by
  have e130 : (130 : Int32) * nI o = nI (130 * o) := by rw [show (130 : Int32) = nI 130 from rfl, pk_mul]
  have oo : j_ok (nI o) 30 = true := j_ok_nI ho (by decide)
  suffices H : j_wpo (f_M_says F (nI o) K) (fun w K' => w = v ∧ ∃ g, K' = j_rw K 254 g) by
    obtain ⟨w, K', e, rfl, g, rfl⟩ := H
    exact ⟨g, e⟩
  unfold f_M_says f_M_says_11
  rw [j_letE, e130]
  refine j_it_wp (Inv := fun r q => ∃ i sk S g, i + r = L.length ∧ q = (nI o, nI S.length, sk, nI (130 * o + i), j_rw K 254 g) ∧ y_says nm (L.drop i) sk S = some v ∧ S.length ≤ i ∧ z_pl S g) ?_ F L.length _ (by omega) ⟨0, 0, [], K 254, by omega, by rw [rw_self]; rfl, hv, Nat.le_refl _, fun j x hj => by simp at hj⟩
  intro r q again hq hag
  obtain ⟨i, sk, S, g, hr, rfl, hy, hSi, hpl⟩ := hq
  dsimp only
  unfold f_M_says_11b f_M_says_81 f_M_says_100 f_M_says_131 f_M_says_168
  have r249 : (j_rw K 254 g) 249 = K 249 := rw_ne (by decide)
  have r250 : (j_rw K 254 g) 250 = K 250 := rw_ne (by decide)
  have r251 : (j_rw K 254 g) 251 = K 251 := rw_ne (by decide)
  have r253 : (j_rw K 254 g) 253 = K 253 := rw_ne (by decide)
  rw [if_pos oo, r249, j_ix_nI (show o < 2 ^ 31 by omega), h249, e130, nI_add]
  by_cases ce : i = L.length
  · rw [if_pos (nI_le (by omega) (by omega))]
    rw [ce, List.drop_length, y_nil] at hy
    exact wpo_some ⟨Option.some.inj hy, g, rfl⟩
  have hi : i < L.length := by omega
  have hd : L.drop i = L[i] :: L.drop (i + 1) := List.drop_eq_getElem_cons hi
  have hg : L[i]? = some L[i] := List.getElem?_eq_getElem hi
  obtain ⟨k1, k2⟩ := hst i _ hg
  rw [hd] at hy
  generalize L[i] = q at k1 k2 hy
  obtain ⟨w, x⟩ := q
  dsimp only at k1 k2
  have nx : ∀ sk' S' g', y_says nm (L.drop (i + 1)) sk' S' = some v → S'.length ≤ i + 1 → z_pl S' g' → j_wpo (again (nI o, nI S'.length, sk', nI (130 * o + i + 1), j_rw K 254 g')) (fun w K' => w = v ∧ ∃ g, K' = j_rw K 254 g) := fun sk' S' g' y1 y2 y3 => hag _ (r - 1) (by omega) ⟨i + 1, sk', S', g', by omega, by rw [Nat.add_assoc], y1, y2, y3⟩
  rw [y_cons] at hy
  have hy2 := hy
  dsimp only at hy2
  clear hy
  generalize L.drop (i + 1) = R at *
  have ok4 : j_ok (nI (130 * o + i)) 3900 = true := j_ok_nI (by omega) (by decide)
  have o0 : j_ok (0 : Int32) 130 = true := rfl
  have x0 : j_ix (0 : Int32) = 0 := rfl
  rw [if_neg (nI_ge (show 130 * o + i < 130 * o + L.length by omega) (show 130 * o + L.length < 2 ^ 31 by omega)), if_pos ok4, j_letE, j_ix_nI (show 130 * o + i < 2 ^ 31 by omega), r250, k1]
  have pn : z_pl [] g := fun j x hj => by simp at hj
  by_cases c3 : w = 3
  · rw [if_pos c3] at hy2
    rw [if_pos (show nI w = 3 by rw [c3]; rfl)]
    by_cases s0 : sk = 0
    · rw [if_pos s0] at hy2 ⊢
      rw [if_pos o0, x0, rw_at]
      exact wpo_some ⟨pl_last hpl hy2, g, rfl⟩
    · rw [if_neg s0] at hy2 ⊢
      rw [j_letE, nI_1]
      exact nx 0 [] g hy2 (by simp) pn
  rw [if_neg c3] at hy2
  by_cases c2 : w = 2
  · rw [if_pos c2] at hy2
    rw [if_neg (show ¬ nI w = 3 by rw [c2]; decide), if_pos (show nI w = 2 by rw [c2]; rfl), if_pos o0, x0, rw_at]
    cases hl : S.getLast? with
    | none => rw [hl] at hy2; cases hy2
    | some y =>
      rw [hl] at hy2
      have hy3 : y_says nm R (if y = 0 then 1 else 0) [] = some v := hy2
      rw [pl_last hpl hl]
      by_cases y0 : y = 0
      · rw [if_pos y0] at hy3 ⊢
        rw [j_letE, nI_1]
        exact nx 1 [] g hy3 (by simp) pn
      · rw [if_neg y0] at hy3 ⊢
        rw [j_letE, nI_1]
        exact nx 0 [] g hy3 (by simp) pn
  rw [if_neg c2] at hy2
  cases hx : x_st nm w x S with
  | none => rw [hx] at hy2; cases hy2
  | some S' =>
    rw [hx] at hy2
    have hy3 : y_says nm R sk S' = some v := hy2
    rcases x_inv hx with ⟨rfl, rfl⟩ | ⟨h1, h2, rfl⟩ | ⟨h1, a, b, S2, rfl, rfl⟩
    · rw [if_neg (show ¬ nI 1 = 3 by decide), if_neg (show ¬ nI 1 = 2 by decide), if_pos (show nI 1 = 1 from rfl), if_pos (show nI 1 = 1 from rfl), if_pos ok4, r251, k2, if_pos (j_ok_nI (show S.length < 130 by omega) (by decide)), j_ix_nI (show S.length < 2 ^ 31 by omega), rw_wr, j_letE, j_letE, j_letE, nI_1, nI_1]
      exact nx sk (x :: S) _ hy3 (by simp; omega) (pl_push hpl x)
    · have hn : nam (w - 100) := by
        rcases nam_cases (w - 100) with z | z
        · exact z
        · omega
      have hb := nam_ix hn
      have es : nI w - 100 = nI (w - 100) := pk_sub (b := 100) h1
      rw [if_neg (show ¬ nI w = 3 from nI_ne (b := 3) (by omega) (by omega) (by decide)), if_neg (show ¬ nI w = 2 from nI_ne (b := 2) (by omega) (by omega) (by decide)), if_neg (show ¬ nI w = 1 from nI_ne (b := 1) (by omega) (by omega) (by decide)), if_neg (show ¬ nI w < 100 from nI_nlt (b := 100) (by omega) (by omega)), if_neg (show ¬ nI w = 1 from nI_ne (b := 1) (by omega) (by omega) (by decide)), es, if_pos (j_ok_nI (show w - 100 < 128 by omega) (by decide)), j_ix_nI (show w - 100 < 2 ^ 31 by omega), r253, hnm _ h2, if_pos (j_ok_nI (show S.length < 130 by omega) (by decide)), j_ix_nI (show S.length < 2 ^ 31 by omega), rw_wr, j_letE, j_letE, j_letE, nI_1, nI_1]
      exact nx sk (nm (w - 100) :: S) _ hy3 (by simp; omega) (pl_push hpl _)
    · have hb := iop_tight h1
      obtain ⟨p1, g1⟩ := pl_tail hpl
      obtain ⟨p2, g2⟩ := pl_tail p1
      have hl2 : S2.length + 2 ≤ i := by simpa using hSi
      have el : nI (b :: a :: S2).length + (-1) = nI (S2.length + 1) := pk_m1 (S2.length + 1)
      have g1' : g (S2.length + 1) = b := g1
      have ob : ∀ (K : j_M), f_M_both F (nI w) a b K = some (b_both w a b, K) := fun K => e_both h1
      rw [if_neg (show ¬ nI w = 3 from nI_ne (b := 3) (by omega) (by omega) (by decide)), if_neg (show ¬ nI w = 2 from nI_ne (b := 2) (by omega) (by omega) (by decide)), if_neg (show ¬ nI w = 1 from nI_ne (b := 1) (by omega) (by omega) (by decide)), if_pos (show nI w < 100 from nI_lt (b := 100) (by omega) (by decide)), el, j_letE, nI_pred, if_pos (j_ok_nI (show S2.length < 130 by omega) (by decide)), if_pos (j_ok_nI (show S2.length + 1 < 130 by omega) (by decide)), j_ix_nI (show S2.length < 2 ^ 31 by omega), j_ix_nI (show S2.length + 1 < 2 ^ 31 by omega), rw_at, g1', g2, ob, j_bdS, if_pos (j_ok_nI (show S2.length < 130 by omega) (by decide)), rw_wr, j_letE, j_letE, nI_1]
      exact nx sk (b_both w a b :: S2) _ hy3 (by simp; omega) (pl_push p2 _)
