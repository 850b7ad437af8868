/-! price texts: what each token does to the reference's state -/
abbrev m_mp (ps : List Nat) : List (Nat × Int32) := ps.map (fun x => (x, 0))
theorem tk_end1 {F n o : Nat} {b : Nat → Nat} {K0 : j_M} {t : Int32} {W : List Nat} {out : List (Nat × Int32)} (tx : m_tx n b K0) : m_en F n o K0 n 1 t W out n := by
  refine en_step (fun g K hK => ⟨n, W, out, K, hK, ?_⟩)
  obtain ⟨e1, -⟩ := rp_tx tx hK
  have := tx.1
  unfold m_lp
  dsimp only
  unfold f_M_parse_19b
  rw [e1, hK.2.1, if_pos (nI_le (Nat.le_refl _) (by omega)), if_neg (show ¬ (1 : Int32) = 0 by decide)]
theorem tk_fin {F n o : Nat} {b : Nat → Nat} {K0 : j_M} {t : Int32} {ps : List Nat} {out : List (Nat × Int32)} (hF : 20000000 < F) (tx : m_tx n b K0) (ho : o < 30) (hps : ∀ x, x ∈ ps → iop x) (hb : ps.length + out.length ≤ n) : ∀ f K, n - n < f → m_rp K0 o n ps out K → ∃ K', m_rp K0 o n [] (out ++ m_mp ps ++ [(3, 0)]) K' ∧ j_it (m_lp F) f (nI o, 0, t, K) = some (-1, K') := by
  intro f K hf hK
  obtain ⟨f, rfl⟩ : ∃ g, f = g + 1 := ⟨f - 1, by omega⟩
  obtain ⟨e1, -⟩ := rp_tx tx hK
  have h120 := tx.1
  obtain ⟨K1, d1, d2⟩ := e_done (F := F) (fr := 1) (ps := ps) (W := []) (out := out) (K := K) hF ho (by decide) (by decide) (fun x hx => ⟨hps x hx, by have := (iop_tight (hps x hx)).1; omega⟩) (fun w W' h => by cases h) (by simp; omega) (by rw [List.append_nil]; exact hK)
  have d1' : f_M_done F (nI o) 1 K = some (0, K1) := d1
  obtain ⟨K2, l1, l2⟩ := e_lay (F := F) (a := 3) (x := 0) d2 ho (by simp; omega)
  have l1' : f_M_lay F (nI o) 3 0 K1 = some (0, K2) := l1
  refine ⟨K2, l2, ?_⟩
  rw [j_it_succ]
  generalize j_it (m_lp F) f = G
  unfold m_lp
  dsimp only
  unfold f_M_parse_19b
  have w0 : K1 215 60 = nI 0 := d2.2.2.1
  rw [e1, hK.2.1, if_pos (nI_le (Nat.le_refl _) (by omega)), if_pos (show (0 : Int32) = 0 from rfl), d1', j_bdS, w0, if_pos (show nI 0 ≤ 0 by decide), l1', j_bdS]
theorem tk_finE {F n o : Nat} {b : Nat → Nat} {K0 : j_M} {t : Int32} {ps W : List Nat} {out : List (Nat × Int32)} (hF : 20000000 < F) (tx : m_tx n b K0) (ho : o < 30) (hps : ∀ x, x ∈ ps → iop x) (hb : ps.length + (4 :: W).length + out.length ≤ n) : m_en F n o K0 n 0 t (ps ++ 4 :: W) out n := by
  refine en_step (fun g K hK => ?_)
  obtain ⟨e1, -⟩ := rp_tx tx hK
  have h120 := tx.1
  obtain ⟨K1, d1, d2⟩ := e_done (F := F) (fr := 1) (ps := ps) (W := 4 :: W) hF ho (by decide) (by decide) (fun x hx => ⟨hps x hx, by have := (iop_tight (hps x hx)).1; omega⟩) (fun w W' h => by cases h; decide) (by omega) hK
  have d1' : f_M_done F (nI o) 1 K = some (0, K1) := d1
  obtain ⟨e2, -⟩ := rp_tx tx d2
  refine ⟨_, _, _, K1, d2, ?_⟩
  unfold m_lp
  dsimp only
  unfold f_M_parse_19b
  have w0 : K1 215 60 = nI (W.length + 1) := d2.2.2.1
  have hl : W.length + 1 ≤ n := by simp at hb; omega
  rw [e1, hK.2.1, if_pos (nI_le (Nat.le_refl _) (by omega)), if_pos (show (0 : Int32) = 0 from rfl), d1', j_bdS, w0, if_neg (nI_nle (by omega) (by omega)), e2]
theorem lp_want {F n o p : Nat} {b : Nat → Nat} {K0 K : j_M} {t : Int32} {W : List Nat} {out : List (Nat × Int32)} {g : Int32 × Int32 × Int32 × j_M → Option (Int32 × j_M)} (tx : m_tx n b K0) (hp : p < n) (hK : m_rp K0 o p W out K) : m_lp F g (nI o, 1, t, K) = j_bd (f_M_operand F (nI o) K) (fun v14 I15 => (if v14 = 0 then some (I15 215 62, I15) else g (nI o, (if b p = 40 then 1 else 0), t, I15))) := by
  obtain ⟨e1, e2⟩ := rp_tx tx hK
  have h120 := tx.1
  unfold m_lp
  dsimp only
  unfold f_M_parse_19b f_M_parse_57
  rw [e1, hK.2.1, if_neg (nI_ge hp (by omega)), if_pos (j_ok_nI (show p < 120 by omega) (by decide)), j_letE, j_ix_nI (by omega), e2 p hp, if_neg (show ¬ (1 : Int32) = 0 by decide)]
  by_cases c : b p = 40
  · rw [if_pos (show t_b (b p) = 40 by rw [c]; rfl), if_pos c]
  · rw [if_neg (show ¬ t_b (b p) = 40 from t_nq (m := 40) c (tx.2.1 p) (by decide)), if_neg c]
theorem tk_name {F n o p : Nat} {b : Nat → Nat} {K0 : j_M} {t : Int32} {W : List Nat} {out : List (Nat × Int32)} (tx : m_tx n b K0) (ho : o < 30) (hp : p < n) (hb : W.length + out.length ≤ p) (hc : ixn (b p) < 8) : m_go F n o K0 p 1 t W out (p + 1) 0 t W (out ++ [(100 + b p, 0)]) := by
  have h120 := tx.1
  have hc0 := tx.2.1 p
  have hn : nam (b p) := by
    rcases nam_cases (b p) with z | z
    · exact z
    · omega
  have hn2 := nam_ix hn
  refine go_step (by omega) hp (fun g K hK => ?_)
  obtain ⟨e1, e2⟩ := rp_tx tx hK
  obtain ⟨K1, l1, l2⟩ := e_lay (F := F) (a := 100 + b p) (x := 0) hK ho (by omega)
  refine ⟨_, rp_at l2 (p + 1), ?_⟩
  rw [lp_want tx hp hK]
  unfold f_M_operand
  have u1 : (100 : Int32) + t_b (b p) = nI (100 + b p) := by rw [t_lo hn2.2.1, show (100 : Int32) = nI 100 from rfl, nI_add]
  rw [hK.2.1, if_pos (j_ok_nI (show p < 120 by omega) (by decide)), j_letE, j_ix_nI (by omega), e2 p hp, if_neg (show ¬ t_b (b p) = 40 from t_nq (m := 40) (by omega) hc0 (by decide)), e_isName hc0, if_pos hc, j_bdS, if_neg (show ¬ (1 : Int32) = 0 by decide), u1, l1, j_bdS, j_letE, j_bdS, if_neg (show ¬ (1 : Int32) = 0 by decide), if_neg (by omega), l2.2.1, nI_1]
theorem tk_open {F n o p : Nat} {b : Nat → Nat} {K0 : j_M} {t : Int32} {W : List Nat} {out : List (Nat × Int32)} (hF : 20000000 < F) (tx : m_tx n b K0) (hp : p < n) (hb : W.length + out.length ≤ p) (hw : ∀ w, w ∈ W → w = 4 ∨ iop w) (hc : b p = 40) (h8 : W.count 4 < 8) : m_go F n o K0 p 1 t W out (p + 1) 1 t (4 :: W) out := by
  have h120 := tx.1
  refine go_step (by omega) hp (fun g K hK => ?_)
  obtain ⟨e1, e2⟩ := rp_tx tx hK
  refine ⟨_, rp_at (rp_push hK 4) (p + 1), ?_⟩
  rw [lp_want tx hp hK]
  unfold f_M_operand
  have u1 : (j_wr (j_wr K 252 W.length (nI 4)) 215 60 (nI (W.length + 1))) 215 62 = nI p := (rp_push hK 4).2.1
  have u3 : K 215 60 = nI W.length := hK.2.2.1
  rw [hK.2.1, if_pos (j_ok_nI (show p < 120 by omega) (by decide)), j_letE, j_ix_nI (by omega), e2 p hp, if_pos (show t_b (b p) = 40 by rw [hc]; rfl), e_opened hF (by omega) hw hK, j_bdS, if_neg (show ¬ nI (W.count 4) = 8 from nI_ne (b := 8) (by omega) (by omega) (by decide)), u3, if_pos (j_ok_nI (show W.length < 130 by omega) (by decide)), j_ix_nI (by omega), j_letE, j_wr_cell _ _ _ (show (215 : Nat) ≠ 252 by decide), u3, nI_1, j_letE, j_letE]
  rw [show (4 : Int32) = nI 4 from rfl, u1, nI_1, j_bdS, if_neg (show ¬ (1 : Int32) = 0 by decide), if_pos hc]
theorem tk_deep {F n o p : Nat} {b : Nat → Nat} {K0 : j_M} {t : Int32} {W : List Nat} {out : List (Nat × Int32)} (hF : 20000000 < F) (tx : m_tx n b K0) (hp : p < n) (hb : W.length + out.length ≤ p) (hw : ∀ w, w ∈ W → w = 4 ∨ iop w) (hc : b p = 40) (h8 : W.count 4 = 8) : m_en F n o K0 p 1 t W out p := by
  have h120 := tx.1
  refine en_step (fun g K hK => ⟨_, _, _, K, hK, ?_⟩)
  obtain ⟨e1, e2⟩ := rp_tx tx hK
  rw [lp_want tx hp hK]
  unfold f_M_operand
  rw [hK.2.1, if_pos (j_ok_nI (show p < 120 by omega) (by decide)), j_letE, j_ix_nI (by omega), e2 p hp, if_pos (show t_b (b p) = 40 by rw [hc]; rfl), e_opened hF (by omega) hw hK, j_bdS, h8, if_pos (show nI 8 = 8 from rfl), j_bdS, if_pos (show (0 : Int32) = 0 from rfl), hK.2.1]
/-- digits -/
def d_v (b : Nat → Nat) (p : Nat) : Nat → Int32
  | 0 => 0
  | i + 1 => 10 * d_v b p i + nI (b (p + i)) - 48
def d_m (n : Nat) (b : Nat → Nat) (p m : Nat) : Prop := m ≤ 5 ∧ (∀ i, i < m → p + i < n ∧ dgt (b (p + i))) ∧ (m = 5 ∨ p + m = n ∨ ¬ dgt (b (p + m))) ∧ p + m ≤ n
theorem d_ex {n : Nat} (b : Nat → Nat) {p : Nat} (hp : p ≤ n) : ∃ m, d_m n b p m := by
  obtain ⟨m, h1, h2⟩ := pk_least (fun m => m = 5 ∨ n ≤ p + m ∨ ¬ dgt (b (p + m))) ⟨5, Or.inl rfl⟩
  have h3 : m ≤ 5 := by
    rcases Nat.lt_or_ge 5 m with z | z
    · exact absurd (Or.inl rfl) (h2 5 z)
    · exact z
  have h4 : ∀ i, i < m → p + i < n ∧ dgt (b (p + i)) := fun i hi => by
    have q := h2 i hi
    refine ⟨?_, ?_⟩
    · rcases Nat.lt_or_ge (p + i) n with z | z
      · exact z
      · exact absurd (Or.inr (Or.inl z)) q
    · exact Classical.byContradiction (fun z => q (Or.inr (Or.inr z)))
  have h5 : p + m ≤ n := by
    rcases Nat.eq_zero_or_pos m with z | z
    · omega
    · have := (h4 (m - 1) (by omega)).1; omega
  refine ⟨m, h3, h4, ?_, h5⟩
  rcases h1 with z | z | z
  · exact Or.inl z
  · exact Or.inr (Or.inl (by omega))
  · exact Or.inr (Or.inr z)
theorem e_amd {F c : Nat} {K : j_M} (hc : c < 256) (h : dgt c) : f_M_among F (t_b c) 48 57 K = some (1, K) := by
  rw [e_among, if_pos ((t_dg hc).mpr h)]
theorem e_amn {F c : Nat} {K : j_M} (hc : c < 256) (h : ¬ dgt c) : f_M_among F (t_b c) 48 57 K = some (0, K) := by
  rw [e_among, if_neg (fun z => h ((t_dg hc).mp z))]
theorem e_digits {F n o p m : Nat} {b : Nat → Nat} {K0 K : j_M} {W : List Nat} {out : List (Nat × Int32)} (hF : 20000000 < F) (tx : m_tx n b K0) (hm : d_m n b p m) (hK : m_rp K0 o p W out K) : f_M_operand_93 F (nI o) 0 0 K = f_M_operand_164 F (nI o) (nI m) (d_v b p m) (j_wr K 215 62 (nI (p + m))) := by
  obtain ⟨e1, e2⟩ := rp_tx tx hK
  obtain ⟨m1, m2, m3, m4⟩ := hm
  have h120 := tx.1
  have hpn : p ≤ n := by omega
  unfold f_M_operand_93
  have h0 : ((nI o, (0 : Int32), (0 : Int32), K) : Int32 × Int32 × Int32 × j_M) = (nI o, nI 0, d_v b p 0, j_wr K 215 62 (nI (p + 0))) := by
    rw [Nat.add_zero, ← hK.2.1, wr_self]; rfl
  rw [h0]
  have r51 : ∀ v, (j_wr K 215 62 v) 215 51 = nI n := fun v => by rw [j_wr_idx _ _ _ (by decide)]; exact e1
  have r245 : ∀ v, (j_wr K 215 62 v) 245 = K 245 := fun v => j_wr_cell _ _ _ (by decide)
  refine j_it_run (r := f_M_operand_164 F (nI o) (nI m) (d_v b p m) (j_wr K 215 62 (nI (p + m)))) (fun i => (nI o, nI i, d_v b p i, j_wr K 215 62 (nI (p + i)))) m (fun i hi again => ?_) (fun again => ?_) F 0 (by omega) (by omega)
  · obtain ⟨q1, q2⟩ := m2 i hi
    have hc := tx.2.1 (p + i)
    have hlo : b (p + i) < 128 := by unfold dgt at q2; omega
    dsimp only
    unfold f_M_operand_93b
    rw [r51, j_wr_same, if_neg (nI_ge q1 (by omega)), if_pos (j_ok_nI (show p + i < 120 by omega) (by decide)), j_ix_nI (by omega), r245, e2 _ q1, e_amd hc q2, j_bdS, if_neg (show ¬ (1 : Int32) = 0 by decide), if_neg (show ¬ (5 : Int32) ≤ nI i from nI_ge (b := 5) (by omega) (by decide)), j_wr_same, if_pos (j_ok_nI (show p + i < 120 by omega) (by decide)), j_ix_nI (by omega), r245, e2 _ q1, t_lo hlo]
    simp only [j_letE, nI_1, wr_ww]
    rfl
  · dsimp only
    unfold f_M_operand_93b
    rw [r51, j_wr_same]
    by_cases c : p + m = n
    · rw [if_pos (nI_le (by omega) (by omega))]
    · have c1 : p + m < n := by omega
      have hc := tx.2.1 (p + m)
      rw [if_neg (nI_ge c1 (by omega)), if_pos (j_ok_nI (show p + m < 120 by omega) (by decide)), j_ix_nI (by omega), r245, e2 _ c1]
      by_cases d : dgt (b (p + m))
      · have m5 : m = 5 := by
          rcases m3 with z | z | z
          · exact z
          · exact absurd z c
          · exact absurd d z
        subst m5
        rw [e_amd hc d, j_bdS, if_neg (show ¬ (1 : Int32) = 0 by decide), if_pos (show (5 : Int32) ≤ nI 5 by decide)]
      · rw [e_amn hc d, j_bdS, if_pos rfl]
theorem op_num {F n o p : Nat} {b : Nat → Nat} {K0 K : j_M} {W : List Nat} {out : List (Nat × Int32)} (tx : m_tx n b K0) (hp : p < n) (hK : m_rp K0 o p W out K) (h1 : b p ≠ 40) (h2 : ¬ ixn (b p) < 8) : f_M_operand F (nI o) K = f_M_operand_93 F (nI o) 0 0 K := by
  obtain ⟨e1, e2⟩ := rp_tx tx hK
  have h120 := tx.1
  have hc := tx.2.1 p
  unfold f_M_operand
  rw [hK.2.1, if_pos (j_ok_nI (show p < 120 by omega) (by decide)), j_letE, j_ix_nI (by omega), e2 p hp, if_neg (show ¬ t_b (b p) = 40 from t_nq (m := 40) h1 hc (by decide)), e_isName hc, if_neg h2, j_bdS, if_pos rfl]
theorem dgt_not {c : Nat} (h : dgt c) : c ≠ 40 ∧ ¬ ixn c < 8 ∧ sg c = 0 ∧ c ≠ 41 ∧ c ≠ 58 ∧ c ≠ 59 := by
  unfold dgt at h
  refine ⟨by omega, ?_, ?_, by omega, by omega, by omega⟩
  · rcases nam_cases c with z | z
    · have := nam_ix z; omega
    · omega
  · rcases sg_cases c with z | z
    · omega
    · exact z.1
theorem tk_num {F n o p m : Nat} {b : Nat → Nat} {K0 : j_M} {t : Int32} {W : List Nat} {out : List (Nat × Int32)} (hF : 20000000 < F) (tx : m_tx n b K0) (ho : o < 30) (hp : p < n) (hb : W.length + out.length ≤ p) (hm : d_m n b p m) (hm1 : 1 ≤ m) (h6 : ¬ (m = 5 ∧ p + m < n ∧ dgt (b (p + m)))) : m_go F n o K0 p 1 t W out (p + m) 0 t W (out ++ [(1, d_v b p m)]) := by
  have h120 := tx.1
  have hd : dgt (b p) := (hm.2.1 0 (by omega)).2
  obtain ⟨n1, n2, -⟩ := dgt_not hd
  refine go_step (by omega) hp (fun g K hK => ?_)
  obtain ⟨e1, e2⟩ := rp_tx tx hK
  obtain ⟨K1, l1, l2⟩ := e_lay (F := F) (a := 1) (x := d_v b p m) (rp_at hK (p + m)) ho (by omega)
  have l1' : f_M_lay F (nI o) 1 (d_v b p m) (j_wr K 215 62 (nI (p + m))) = some (0, K1) := l1
  refine ⟨K1, l2, ?_⟩
  have r51 : (j_wr K 215 62 (nI (p + m))) 215 51 = nI n := by rw [j_wr_idx _ _ _ (by decide)]; exact e1
  have r245 : (j_wr K 215 62 (nI (p + m))) 245 = K 245 := j_wr_cell _ _ _ (by decide)
  have fin : f_M_operand_205 F (nI o) (d_v b p m) (j_wr K 215 62 (nI (p + m))) = some (1, K1) := by
    unfold f_M_operand_205
    rw [l1', j_bdS]
  rw [lp_want tx hp hK, op_num tx hp hK n1 n2, e_digits hF tx hm hK]
  unfold f_M_operand_164
  have m5 := hm.1
  rw [fin, if_neg (nI_ne0 (by omega) (by omega)), r51, j_wr_same]
  have done : (if nI m = 5 then (if nI n ≤ nI (p + m) then some (1, K1) else (if j_ok (nI (p + m)) 120 = true then j_bd (f_M_among F ((j_wr K 215 62 (nI (p + m))) 245 (j_ix (nI (p + m)))) 48 57 (j_wr K 215 62 (nI (p + m)))) (fun v3 I4 => (if v3 = 0 then f_M_operand_205 F (nI o) (d_v b p m) I4 else some (0, I4))) else none)) else some (1, K1)) = some ((1 : Int32), K1) := by
    by_cases c : m = 5
    · rw [if_pos (show nI m = 5 by rw [c]; rfl)]
      by_cases c2 : p + m = n
      · rw [if_pos (nI_le (by omega) (by omega))]
      · have c3 : p + m < n := by have := hm.2.2.2; omega
        have nd : ¬ dgt (b (p + m)) := fun z => h6 ⟨c, c3, z⟩
        rw [if_neg (nI_ge c3 (by omega)), if_pos (j_ok_nI (show p + m < 120 by omega) (by decide)), j_ix_nI (by omega), r245, e2 _ c3, e_amn (tx.2.1 _) nd, j_bdS, if_pos rfl, fin]
    · rw [if_neg (show ¬ nI m = 5 from nI_ne (b := 5) c (by omega) (by decide))]
  rw [done, j_bdS, if_neg (show ¬ (1 : Int32) = 0 by decide), if_neg n1]
theorem tk_six {F n o p : Nat} {b : Nat → Nat} {K0 : j_M} {t : Int32} {W : List Nat} {out : List (Nat × Int32)} (hF : 20000000 < F) (tx : m_tx n b K0) (hp : p < n) (hm : d_m n b p 5) (h6 : p + 5 < n ∧ dgt (b (p + 5))) : m_en F n o K0 p 1 t W out (p + 5) := by
  have h120 := tx.1
  have hd : dgt (b p) := (hm.2.1 0 (by omega)).2
  obtain ⟨n1, n2, -⟩ := dgt_not hd
  refine en_step (fun g K hK => ⟨_, _, _, _, rp_at hK (p + 5), ?_⟩)
  obtain ⟨e1, e2⟩ := rp_tx tx hK
  have r51 : (j_wr K 215 62 (nI (p + 5))) 215 51 = nI n := by rw [j_wr_idx _ _ _ (by decide)]; exact e1
  have r245 : (j_wr K 215 62 (nI (p + 5))) 245 = K 245 := j_wr_cell _ _ _ (by decide)
  rw [lp_want tx hp hK, op_num tx hp hK n1 n2, e_digits hF tx hm hK]
  unfold f_M_operand_164
  rw [if_neg (show ¬ nI 5 = 0 by decide), if_pos (show nI 5 = 5 from rfl), r51, j_wr_same, if_neg (nI_ge h6.1 (by omega)), if_pos (j_ok_nI (show p + 5 < 120 by omega) (by decide)), j_ix_nI (by omega), r245, e2 _ h6.1, e_amd (tx.2.1 _) h6.2, j_bdS, if_neg (show ¬ (1 : Int32) = 0 by decide), j_bdS, if_pos rfl, j_wr_same]
theorem tk_bad {F n o p : Nat} {b : Nat → Nat} {K0 : j_M} {t : Int32} {W : List Nat} {out : List (Nat × Int32)} (hF : 20000000 < F) (tx : m_tx n b K0) (hp : p < n) (h1 : b p ≠ 40) (h2 : ¬ ixn (b p) < 8) (h3 : ¬ dgt (b p)) : m_en F n o K0 p 1 t W out p := by
  have h120 := tx.1
  refine en_step (fun g K hK => ⟨_, _, _, _, rp_at hK (p + 0), ?_⟩)
  rw [lp_want tx hp hK, op_num tx hp hK h1 h2, e_digits (m := 0) hF tx ⟨by omega, fun i hi => absurd hi (Nat.not_lt_zero _), Or.inr (Or.inr h3), by omega⟩ hK]
  unfold f_M_operand_164
  rw [if_pos (show nI 0 = 0 from rfl), j_bdS, if_pos rfl, j_wr_same]
  rfl
