/-! price texts: the reference's states and its tokens -/
def m_rp (K0 : j_M) (o p : Nat) (W : List Nat) (out : List (Nat × Int32)) (K : j_M) : Prop := (∀ c k, ¬ (c = 215 ∧ (k = 60 ∨ k = 61 ∨ k = 62)) → c ≠ 252 → ¬ ((c = 250 ∨ c = 251) ∧ 130 * o ≤ k) → K c k = K0 c k) ∧ K 215 62 = nI p ∧ K 215 60 = nI W.length ∧ K 215 61 = nI out.length ∧ (∀ i w, W.reverse[i]? = some w → K 252 i = nI w) ∧ ∀ i q, out[i]? = some q → K 250 (130 * o + i) = nI q.1 ∧ K 251 (130 * o + i) = q.2
theorem rp_at {K0 K : j_M} {o p : Nat} {W : List Nat} {out : List (Nat × Int32)} (h : m_rp K0 o p W out K) (p' : Nat) : m_rp K0 o p' W out (j_wr K 215 62 (nI p')) := by
  obtain ⟨h1, h2, h3, h4, h5, h6⟩ := h
  refine ⟨fun c k y1 y2 y3 => ?_, j_wr_same _ _ _ _, ?_, ?_, fun i w hi => ?_, fun i q hi => ?_⟩
  · rw [j_wr_at, if_neg (by omega)]; exact h1 c k y1 y2 y3
  · rw [j_wr_idx _ _ _ (by decide)]; exact h3
  · rw [j_wr_idx _ _ _ (by decide)]; exact h4
  · rw [j_wr_cell _ _ _ (by decide)]; exact h5 i w hi
  · rw [j_wr_cell _ _ _ (by decide), j_wr_cell _ _ _ (by decide)]; exact h6 i q hi
theorem rp_push {K0 K : j_M} {o p : Nat} {W : List Nat} {out : List (Nat × Int32)} (h : m_rp K0 o p W out K) (w : Nat) : m_rp K0 o p (w :: W) out (j_wr (j_wr K 252 W.length (nI w)) 215 60 (nI (W.length + 1))) := by
  obtain ⟨h1, h2, h3, h4, h5, h6⟩ := h
  refine ⟨fun c k y1 y2 y3 => ?_, ?_, j_wr_same _ _ _ _, ?_, fun i x hi => ?_, fun i q hi => ?_⟩
  · rw [j_wr_at, if_neg (by omega), j_wr_at, if_neg (by omega)]; exact h1 c k y1 y2 y3
  · rw [j_wr_idx _ _ _ (by decide), j_wr_cell _ _ _ (by decide)]; exact h2
  · rw [j_wr_idx _ _ _ (by decide), j_wr_cell _ _ _ (by decide)]; exact h4
  · rw [j_wr_cell _ _ _ (by decide)]
    rw [List.reverse_cons, List.getElem?_append, List.length_reverse] at hi
    by_cases c : i < W.length
    · rw [if_pos c] at hi
      rw [j_wr_idx _ _ _ (by omega)]; exact h5 i x hi
    · rw [if_neg c] at hi
      have e : i - W.length = 0 := by
        rcases Nat.eq_zero_or_pos (i - W.length) with z | z
        · exact z
        · rw [List.getElem?_eq_none (by simp; omega)] at hi; cases hi
      rw [e] at hi
      have ex : w = x := Option.some.inj hi
      rw [show i = W.length by omega, j_wr_same, ex]
  · rw [j_wr_cell _ _ _ (by decide), j_wr_cell _ _ _ (by decide), j_wr_cell _ _ _ (by decide), j_wr_cell _ _ _ (by decide)]; exact h6 i q hi
theorem rp_pop {K0 K : j_M} {o p w : Nat} {W : List Nat} {out : List (Nat × Int32)} (h : m_rp K0 o p (w :: W) out K) : m_rp K0 o p W out (j_wr K 215 60 (nI W.length)) := by
  obtain ⟨h1, h2, h3, h4, h5, h6⟩ := h
  refine ⟨fun c k y1 y2 y3 => ?_, ?_, j_wr_same _ _ _ _, ?_, fun i x hi => ?_, fun i q hi => ?_⟩
  · rw [j_wr_at, if_neg (by omega)]; exact h1 c k y1 y2 y3
  · rw [j_wr_idx _ _ _ (by decide)]; exact h2
  · rw [j_wr_idx _ _ _ (by decide)]; exact h4
  · rw [j_wr_cell _ _ _ (by decide)]
    refine h5 i x ?_
    have hl : i < W.reverse.length := (List.getElem?_eq_some_iff.mp hi).1
    rw [List.reverse_cons, List.getElem?_append, if_pos hl]
    exact hi
  · rw [j_wr_cell _ _ _ (by decide), j_wr_cell _ _ _ (by decide)]; exact h6 i q hi
theorem rp_lay {K0 K : j_M} {o p : Nat} {W : List Nat} {out : List (Nat × Int32)} (h : m_rp K0 o p W out K) (a : Nat) (x : Int32) : m_rp K0 o p W (out ++ [(a, x)]) (j_wr (j_wr (j_wr K 250 (130 * o + out.length) (nI a)) 251 (130 * o + out.length) x) 215 61 (nI (out.length + 1))) := by
  obtain ⟨h1, h2, h3, h4, h5, h6⟩ := h
  refine ⟨fun c k y1 y2 y3 => ?_, ?_, ?_, ?_, fun i x hi => ?_, fun i q hi => ?_⟩
  · rw [j_wr_at, if_neg (by omega), j_wr_at, if_neg (by omega), j_wr_at, if_neg (by omega)]; exact h1 c k y1 y2 y3
  · rw [j_wr_idx _ _ _ (by decide), j_wr_cell _ _ _ (by decide), j_wr_cell _ _ _ (by decide)]; exact h2
  · rw [j_wr_idx _ _ _ (by decide), j_wr_cell _ _ _ (by decide), j_wr_cell _ _ _ (by decide)]; exact h3
  · rw [j_wr_same, List.length_append]; rfl
  · rw [j_wr_cell _ _ _ (by decide), j_wr_cell _ _ _ (by decide), j_wr_cell _ _ _ (by decide)]; exact h5 i x hi
  · rw [j_wr_cell _ _ _ (show (250 : Nat) ≠ 215 by decide), j_wr_cell _ _ _ (show (250 : Nat) ≠ 251 by decide), j_wr_cell _ _ _ (show (251 : Nat) ≠ 215 by decide)]
    rw [List.getElem?_append] at hi
    by_cases c : i < out.length
    · rw [if_pos c] at hi
      rw [j_wr_idx _ _ _ (by omega), j_wr_idx _ _ _ (by omega), j_wr_cell _ _ _ (by decide)]
      exact h6 i q hi
    · rw [if_neg c] at hi
      have e : i - out.length = 0 := by
        rcases Nat.eq_zero_or_pos (i - out.length) with z | z
        · exact z
        · rw [List.getElem?_eq_none (by simp; omega)] at hi; cases hi
      rw [e] at hi
      have ex : (a, x) = q := Option.some.inj hi
      rw [show i = out.length by omega, j_wr_same, j_wr_same, ← ex]
      exact ⟨rfl, rfl⟩
theorem rp_top {K0 K : j_M} {o p w : Nat} {W : List Nat} {out : List (Nat × Int32)} (h : m_rp K0 o p (w :: W) out K) : K 252 W.length = nI w := by
  refine h.2.2.2.2.1 W.length w ?_
  rw [List.reverse_cons, List.getElem?_append, List.length_reverse, if_neg (Nat.lt_irrefl _), Nat.sub_self]
  rfl
theorem e_tight {F w : Nat} {K : j_M} (h : w < 2 ^ 31) : f_M_tight F (nI w) K = some (nI (w / 10), K) := by
  unfold f_M_tight
  rw [if_neg (by decide), show (10 : Int32) = nI 10 from rfl, pk_div h (by decide) (by decide)]
theorem e_lay {F o p a : Nat} {K0 K : j_M} {W : List Nat} {out : List (Nat × Int32)} {x : Int32} (h : m_rp K0 o p W out K) (ho : o < 30) (hl : out.length < 130) : ∃ K', f_M_lay F (nI o) (nI a) x K = some (0, K') ∧ m_rp K0 o p W (out ++ [(a, x)]) K' := by
  refine ⟨_, ?_, rp_lay h a x⟩
  have h4 := h.2.2.2.1
  have e1 : (130 : Int32) * nI o + nI out.length = nI (130 * o + out.length) := by rw [show (130 : Int32) = nI 130 from rfl, pk_mul, nI_add]
  have ok : j_ok (nI (130 * o + out.length)) 3900 = true := j_ok_nI (by omega) (by decide)
  unfold f_M_lay
  simp (disch := decide) only [h4, e1, ok, if_true, j_letE, j_wr_cell, j_ix_nI (show 130 * o + out.length < 2 ^ 31 by omega), nI_1]
def m_dn (F : Nat) (again : Int32 × Int32 × j_M → Option (Int32 × j_M)) (q : Int32 × Int32 × j_M) : Option (Int32 × j_M) := f_M_done_0b F (fun x1 x2 I => again (x1, x2, I)) q.1 q.2.1 q.2.2
theorem e_done0 {F o p fr : Nat} {K0 : j_M} (ho : o < 30) (hfr : 1 ≤ fr) (hfr2 : fr ≤ 10) : ∀ (ps : List Nat) (f : Nat) (W : List Nat) (out : List (Nat × Int32)) (K : j_M), ps.length < f → (∀ x, x ∈ ps → iop x ∧ fr ≤ x / 10) → (∀ w W', W = w :: W' → w / 10 < fr) → ps.length + W.length + out.length ≤ 125 → m_rp K0 o p (ps ++ W) out K → ∃ K', j_it (m_dn F) f (nI o, nI fr, K) = some (0, K') ∧ m_rp K0 o p W (out ++ ps.map (fun x => (x, 0))) K'
  | [], f, W, out, K, hf, hps, hW, hb, h => by
    obtain ⟨f, rfl⟩ : ∃ g, f = g + 1 := ⟨f - 1, by simp at hf; omega⟩
    refine ⟨K, ?_, by simpa using h⟩
    rw [j_it_succ]
    generalize j_it (m_dn F) f = G
    unfold m_dn
    dsimp only
    unfold f_M_done_0b
    have h3 : K 215 60 = nI W.length := h.2.2.1
    rcases W with _ | ⟨w, W'⟩
    · rw [h3, if_pos (show nI ([] : List Nat).length ≤ 0 by decide)]
    · have ht := rp_top (W := W') h
      have hw := hW w W' rfl
      have hl : W'.length + 1 + out.length ≤ 125 := by simpa using hb
      have h3' : K 215 60 = nI (W'.length + 1) := h3
      rw [h3', nI_pred, if_neg (nI_nle (by omega) (by omega)), if_pos (j_ok_nI (show W'.length < 130 by omega) (by decide)), if_pos (j_ok_nI (show W'.length < 130 by omega) (by decide)), j_ix_nI (by omega), ht]
      by_cases c : nI w = 4
      · rw [if_pos c]
      · rw [if_neg c, e_tight (by omega), j_bdS, if_pos (nI_lt hw (by omega))]
  | x :: ps, f, W, out, K, hf, hps, hW, hb, h => by
    obtain ⟨f, rfl⟩ : ∃ g, f = g + 1 := ⟨f - 1, by simp at hf; omega⟩
    have hx := hps x List.mem_cons_self
    have ht := rp_top (W := ps ++ W) h
    have q := iop_tight hx.1
    have hl : (ps ++ W).length + 1 + out.length ≤ 125 := by simp at hb ⊢; omega
    have h3' : K 215 60 = nI ((ps ++ W).length + 1) := h.2.2.1
    have ok : j_ok (nI (ps ++ W).length) 130 = true := j_ok_nI (by omega) (by decide)
    obtain ⟨K2, e2, r2⟩ := e_lay (F := F) (a := x) (x := 0) (rp_pop (W := ps ++ W) h) ho (show out.length < 130 by omega)
    obtain ⟨K3, e3, r3⟩ := e_done0 ho hfr hfr2 ps f W (out ++ [(x, 0)]) K2 (by simp at hf; omega) (fun y hy => hps y (List.mem_cons_of_mem _ hy)) hW (by simp at hb ⊢; omega) r2
    refine ⟨K3, ?_, by simpa using r3⟩
    rw [j_it_succ]
    generalize j_it (m_dn F) f = G at e3 ⊢
    unfold m_dn
    dsimp only
    unfold f_M_done_0b
    have u1 : (j_wr K 215 60 (nI (ps ++ W).length)) 215 60 = nI (ps ++ W).length := j_wr_same _ _ _ _
    have u2 : (j_wr K 215 60 (nI (ps ++ W).length)) 252 = K 252 := j_wr_cell _ _ _ (by decide)
    rw [h3', nI_pred, if_neg (nI_nle (by omega) (by omega)), if_pos ok, if_pos ok, j_ix_nI (by omega), ht, if_neg (show ¬ nI x = 4 from nI_ne (b := 4) q.2.2.1 (by omega) (by decide)), e_tight (by omega), j_bdS, if_neg (nI_nlt hx.2 (by omega)), h3', nI_pred, j_letE, u1, if_pos ok, u2, j_ix_nI (by omega), ht, e2, j_bdS]
    exact e3
theorem e_done {F o p fr : Nat} {K0 K : j_M} {ps W : List Nat} {out : List (Nat × Int32)} (hF : 20000000 < F) (ho : o < 30) (hfr : 1 ≤ fr) (hfr2 : fr ≤ 10) (hps : ∀ x, x ∈ ps → iop x ∧ fr ≤ x / 10) (hW : ∀ w W', W = w :: W' → w / 10 < fr) (hb : ps.length + W.length + out.length ≤ 125) (h : m_rp K0 o p (ps ++ W) out K) : ∃ K', f_M_done F (nI o) (nI fr) K = some (0, K') ∧ m_rp K0 o p W (out ++ ps.map (fun x => (x, 0))) K' := by
  obtain ⟨K', e, r⟩ := e_done0 (F := F) ho hfr hfr2 ps F W out K (by omega) hps hW hb h
  exact ⟨K', e, r⟩
theorem e_opened {F o p : Nat} {K0 K : j_M} {W : List Nat} {out : List (Nat × Int32)} (hF : 20000000 < F) (hl : W.length ≤ 125) (hw : ∀ w, w ∈ W → w = 4 ∨ iop w) (h : m_rp K0 o p W out K) : f_M_opened F K = some (nI (W.count 4), K) := by
  unfold f_M_opened f_M_opened_4
  have h3 := h.2.2.1
  refine j_it_run (r := some (nI (W.count 4), K)) (fun i => (nI ((W.reverse.take i).count 4), nI i, K)) W.length (fun i hi again => ?_) (fun again => ?_) F 0 (by omega) (by omega)
  · dsimp only
    unfold f_M_opened_4b f_M_opened_28
    have hi2 : i < W.reverse.length := by simpa using hi
    have hg : W.reverse[i]? = some (W.reverse[i]) := List.getElem?_eq_getElem hi2
    have hm : W.reverse[i] ∈ W := List.mem_reverse.mp (List.getElem_mem hi2)
    have hk := h.2.2.2.2.1 i _ hg
    have hv := hw _ hm
    have hlt : W.reverse[i] < 100 := by
      rcases hv with z | z
      · omega
      · exact (iop_tight z).2.2.2.2
    simp only [h3, if_neg (nI_ge hi (show W.length < 2 ^ 31 by omega)), j_ok_nI (show i < 130 by omega) (show 130 < 2 ^ 31 by decide), if_true, j_ix_nI (show i < 2 ^ 31 by omega), hk, j_letE, nI_1]
    rw [List.take_succ, hg]
    generalize W.reverse[i] = w at hlt
    rw [List.count_append]
    by_cases c : w = 4
    · subst c
      rw [if_pos (show nI 4 = 4 from rfl)]
      rfl
    · rw [if_neg (show ¬ nI w = 4 from nI_ne (b := 4) c (by omega) (by decide)), Int32.add_zero]
      have : List.count 4 (some w).toList = 0 := by simp [c]
      rw [this]
      rfl
  · dsimp only
    unfold f_M_opened_4b
    rw [h3, if_pos (nI_le (Nat.le_refl _) (by omega)), List.take_of_length_le (by simp), List.count_reverse]
def m_lp (F : Nat) (again : Int32 × Int32 × Int32 × j_M → Option (Int32 × j_M)) (q : Int32 × Int32 × Int32 × j_M) : Option (Int32 × j_M) := f_M_parse_19b F (fun x1 x2 x3 I => again (x1, x2, x3, I)) q.1 q.2.1 q.2.2.1 q.2.2.2
def m_tx (n : Nat) (b : Nat → Nat) (K0 : j_M) : Prop := n ≤ 120 ∧ (∀ k, b k < 256) ∧ K0 215 51 = nI n ∧ ∀ k, k < n → K0 245 k = t_b (b k)
theorem rp_tx {n o p : Nat} {b : Nat → Nat} {K0 K : j_M} {W : List Nat} {out : List (Nat × Int32)} (tx : m_tx n b K0) (h : m_rp K0 o p W out K) : K 215 51 = nI n ∧ ∀ k, k < n → K 245 k = t_b (b k) := by
  refine ⟨?_, fun k hk => ?_⟩
  · rw [h.1 215 51 (by decide) (by decide) (by omega)]; exact tx.2.2.1
  · rw [h.1 245 k (by omega) (by decide) (by omega)]; exact tx.2.2.2 k hk
def m_go (F n o : Nat) (K0 : j_M) (p : Nat) (x t : Int32) (W : List Nat) (out : List (Nat × Int32)) (p' : Nat) (x' t' : Int32) (W' : List Nat) (out' : List (Nat × Int32)) : Prop := ∀ f K, n - p < f → m_rp K0 o p W out K → ∃ f' K', n - p' < f' ∧ m_rp K0 o p' W' out' K' ∧ j_it (m_lp F) f (nI o, x, t, K) = j_it (m_lp F) f' (nI o, x', t', K')
def m_en (F n o : Nat) (K0 : j_M) (p : Nat) (x t : Int32) (W : List Nat) (out : List (Nat × Int32)) (r : Nat) : Prop := ∀ f K, n - p < f → m_rp K0 o p W out K → ∃ p' W' out' K', m_rp K0 o p' W' out' K' ∧ j_it (m_lp F) f (nI o, x, t, K) = some (nI r, K')
theorem go_tr {F n o : Nat} {K0 : j_M} {p p' p'' : Nat} {x t x' t' x'' t'' : Int32} {W W' W'' : List Nat} {out out' out'' : List (Nat × Int32)} (h1 : m_go F n o K0 p x t W out p' x' t' W' out') (h2 : m_go F n o K0 p' x' t' W' out' p'' x'' t'' W'' out'') : m_go F n o K0 p x t W out p'' x'' t'' W'' out'' := by
  intro f K hf hK
  obtain ⟨f1, K1, a1, a2, a3⟩ := h1 f K hf hK
  obtain ⟨f2, K2, b1, b2, b3⟩ := h2 f1 K1 a1 a2
  exact ⟨f2, K2, b1, b2, a3.trans b3⟩
theorem go_en {F n o : Nat} {K0 : j_M} {p p' r : Nat} {x t x' t' : Int32} {W W' : List Nat} {out out' : List (Nat × Int32)} (h1 : m_go F n o K0 p x t W out p' x' t' W' out') (h2 : m_en F n o K0 p' x' t' W' out' r) : m_en F n o K0 p x t W out r := by
  intro f K hf hK
  obtain ⟨f1, K1, a1, a2, a3⟩ := h1 f K hf hK
  obtain ⟨p2, W2, o2, K2, b1, b2⟩ := h2 f1 K1 a1 a2
  exact ⟨p2, W2, o2, K2, b1, a3.trans b2⟩
theorem go_step {F n o : Nat} {K0 : j_M} {p p' : Nat} {x t x' t' : Int32} {W W' : List Nat} {out out' : List (Nat × Int32)} (hp : p < p') (hpn : p < n) (H : ∀ g K, m_rp K0 o p W out K → ∃ K', m_rp K0 o p' W' out' K' ∧ m_lp F g (nI o, x, t, K) = g (nI o, x', t', K')) : m_go F n o K0 p x t W out p' x' t' W' out' := by
  intro f K hf hK
  obtain ⟨f, rfl⟩ : ∃ g, f = g + 1 := ⟨f - 1, by omega⟩
  obtain ⟨K', r, e⟩ := H (j_it (m_lp F) f) K hK
  exact ⟨f, K', by omega, r, by rw [j_it_succ]; exact e⟩
theorem en_step {F n o : Nat} {K0 : j_M} {p r : Nat} {x t : Int32} {W : List Nat} {out : List (Nat × Int32)} (H : ∀ g K, m_rp K0 o p W out K → ∃ p' W' out' K', m_rp K0 o p' W' out' K' ∧ m_lp F g (nI o, x, t, K) = some (nI r, K')) : m_en F n o K0 p x t W out r := by
  intro f K hf hK
  obtain ⟨f, rfl⟩ : ∃ g, f = g + 1 := ⟨f - 1, by omega⟩
  obtain ⟨p', W', out', K', r, e⟩ := H (j_it (m_lp F) f) K hK
  exact ⟨p', W', out', K', r, by rw [j_it_succ]; exact e⟩
