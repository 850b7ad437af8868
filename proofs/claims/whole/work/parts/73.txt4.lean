/-! price texts: tokens behind an operand -/
theorem lp_op {F n o p : Nat} {b : Nat → Nat} {K0 K : j_M} {t : Int32} {W : List Nat} {out : List (Nat × Int32)} {g : Int32 × Int32 × Int32 × j_M → Option (Int32 × j_M)} (tx : m_tx n b K0) (hp : p < n) (hK : m_rp K0 o p W out K) (hw : sg (b p) ≠ 0) : m_lp F g (nI o, 0, t, K) = (if sg (b p) / 10 = 4 then f_M_parse_122 F (fun x1 x2 x3 I => g (x1, x2, x3, I)) (nI o) t (nI (sg (b p))) 1 (nI o) 5 K else f_M_parse_122 F (fun x1 x2 x3 I => g (x1, x2, x3, I)) (nI o) t (nI (sg (b p))) 0 (nI o) (nI (sg (b p) / 10)) K) := by
  obtain ⟨e1, e2⟩ := rp_tx tx hK
  have h120 := tx.1
  have q := iop_tight (sg_iop hw)
  unfold m_lp
  dsimp only
  unfold f_M_parse_19b f_M_parse_104
  rw [e1, hK.2.1, if_neg (nI_ge hp (by omega)), if_pos (j_ok_nI (show p < 120 by omega) (by decide)), j_letE, j_ix_nI (by omega), e2 p hp, if_pos (show (0 : Int32) = 0 from rfl), e_sg (tx.2.1 p), j_bdS, if_neg (nI_nle (by omega) (by omega)), e_tight (by omega), j_bdS]
  by_cases c : sg (b p) / 10 = 4
  · rw [if_pos (show nI (sg (b p) / 10) = 4 by rw [c]; rfl), if_pos c, if_neg (show ¬ (1 : Int32) = 0 by decide)]
  · rw [if_neg (show ¬ nI (sg (b p) / 10) = 4 from nI_ne (b := 4) c (by omega) (by decide)), if_neg c, if_pos (show (0 : Int32) = 0 from rfl), e_tight (by omega), j_bdS]
theorem lp_160 {F o p w : Nat} {K0 K : j_M} {t : Int32} {W : List Nat} {out : List (Nat × Int32)} {kb : Int32 → Int32 → Int32 → j_M → Option (Int32 × j_M)} (hK : m_rp K0 o p W out K) (hl : W.length ≤ 125) : ∃ K', m_rp K0 o (p + 1) (w :: W) out K' ∧ f_M_parse_160 F kb (nI o) t (nI w) K = kb (nI o) 1 t K' := by
  refine ⟨_, rp_at (rp_push hK w) (p + 1), ?_⟩
  have u1 : (j_wr (j_wr K 252 W.length (nI w)) 215 60 (nI (W.length + 1))) 215 62 = nI p := (rp_push hK w).2.1
  have u3 : K 215 60 = nI W.length := hK.2.2.1
  unfold f_M_parse_160 f_M_parse_308
  rw [u3, if_pos (j_ok_nI (show W.length < 130 by omega) (by decide)), j_ix_nI (by omega), j_letE, j_wr_cell _ _ _ (show (215 : Nat) ≠ 252 by decide), u3, nI_1, j_letE, j_letE, u1, nI_1]
theorem tk_op {F n o p : Nat} {b : Nat → Nat} {K0 : j_M} {t : Int32} {ps W : List Nat} {out : List (Nat × Int32)} (hF : 20000000 < F) (tx : m_tx n b K0) (ho : o < 30) (hp : p < n) (hb : ps.length + W.length + out.length ≤ p) (hw : sg (b p) ≠ 0) (hps : ∀ x, x ∈ ps → iop x ∧ (if sg (b p) / 10 = 4 then 5 else sg (b p) / 10) ≤ x / 10) (hW : ∀ w W', W = w :: W' → w / 10 < sg (b p) / 10) : m_go F n o K0 p 0 t (ps ++ W) out (p + 1) 1 t (sg (b p) :: W) (out ++ m_mp ps) := by
  have h120 := tx.1
  have q := iop_tight (sg_iop hw)
  refine go_step (by omega) hp (fun g K hK => ?_)
  rw [lp_op tx hp hK hw]
  by_cases c : sg (b p) / 10 = 4
  · rw [if_pos c] at hps ⊢
    obtain ⟨K1, d1, d2⟩ := e_done (F := F) (fr := 5) (ps := ps) (W := W) (out := out) (K := K) hF ho (by decide) (by decide) hps (fun w W' h => by have := hW w W' h; omega) (by omega) hK
    have d1' : f_M_done F (nI o) 5 K = some (0, K1) := d1
    obtain ⟨K2, r2, k2⟩ := lp_160 (F := F) (t := t) (w := sg (b p)) (kb := fun x1 x2 x3 I => g (x1, x2, x3, I)) d2 (by omega)
    refine ⟨K2, r2, ?_⟩
    unfold f_M_parse_122
    rw [d1', j_bdS, if_neg (show ¬ (1 : Int32) = 0 by decide)]
    rcases W with _ | ⟨w, W'⟩
    · have w0 : K1 215 60 = nI 0 := d2.2.2.1
      rw [w0, if_pos (show nI 0 ≤ 0 by decide)]
      exact k2
    · have w0 : K1 215 60 = nI (W'.length + 1) := d2.2.2.1
      have hw2 := hW w W' rfl
      have hl : W'.length + 1 ≤ 120 := by simp at hb; omega
      have ht := rp_top d2
      rw [w0, if_neg (nI_nle (by omega) (by omega)), nI_pred, if_pos (j_ok_nI (show W'.length < 130 by omega) (by decide)), j_ix_nI (by omega), ht, e_tight (by omega), j_bdS, if_neg (show ¬ nI (w / 10) = 4 from nI_ne (b := 4) (by omega) (by omega) (by decide))]
      exact k2
  · rw [if_neg c] at hps ⊢
    obtain ⟨K1, d1, d2⟩ := e_done (F := F) (fr := sg (b p) / 10) (ps := ps) (W := W) (out := out) (K := K) hF ho (by omega) (by omega) hps hW (by omega) hK
    obtain ⟨K2, r2, k2⟩ := lp_160 (F := F) (t := t) (w := sg (b p)) (kb := fun x1 x2 x3 I => g (x1, x2, x3, I)) d2 (by omega)
    refine ⟨K2, r2, ?_⟩
    unfold f_M_parse_122
    rw [d1, j_bdS, if_pos (show (0 : Int32) = 0 from rfl)]
    exact k2
theorem tk_rel {F n o p r : Nat} {b : Nat → Nat} {K0 : j_M} {t : Int32} {ps W : List Nat} {out : List (Nat × Int32)} (hF : 20000000 < F) (tx : m_tx n b K0) (ho : o < 30) (hp : p < n) (hb : ps.length + (r :: W).length + out.length ≤ p) (hw : sg (b p) / 10 = 4) (hps : ∀ x, x ∈ ps → iop x ∧ 5 ≤ x / 10) (hr : r / 10 = 4) : m_en F n o K0 p 0 t (ps ++ r :: W) out p := by
  have h120 := tx.1
  refine en_step (fun g K hK => ?_)
  obtain ⟨K1, d1, d2⟩ := e_done (F := F) (fr := 5) (ps := ps) (W := r :: W) (out := out) (K := K) hF ho (by decide) (by decide) hps (fun w W' h => by cases h; omega) (by omega) hK
  have d1' : f_M_done F (nI o) 5 K = some (0, K1) := d1
  refine ⟨_, _, _, K1, d2, ?_⟩
  rw [lp_op tx hp hK (by omega), if_pos hw]
  unfold f_M_parse_122
  have w0 : K1 215 60 = nI (W.length + 1) := d2.2.2.1
  have hl : W.length + 1 ≤ 120 := by simp at hb; omega
  have ht := rp_top d2
  rw [d1', j_bdS, if_neg (show ¬ (1 : Int32) = 0 by decide), w0, if_neg (nI_nle (by omega) (by omega)), nI_pred, if_pos (j_ok_nI (show W.length < 130 by omega) (by decide)), j_ix_nI (by omega), ht, e_tight (by omega), j_bdS, hr, if_pos (show nI 4 = 4 from rfl), d2.2.1]
theorem lp_non {F n o p : Nat} {b : Nat → Nat} {K0 K : j_M} {t : Int32} {W : List Nat} {out : List (Nat × Int32)} {g : Int32 × Int32 × Int32 × j_M → Option (Int32 × j_M)} (tx : m_tx n b K0) (hp : p < n) (hK : m_rp K0 o p W out K) (hw : sg (b p) = 0) : m_lp F g (nI o, 0, t, K) = (if b p = 41 then j_bd (f_M_done F (nI o) 1 K) (fun v23 I24 => (if (I24 215 60) = 0 then some (I24 215 62, I24) else j_let (j_wr I24 215 60 ((I24 215 60) - 1)) (fun I25 => f_M_parse_308 F (fun x1 x2 x3 I => g (x1, x2, x3, I)) (nI o) 0 t I25))) else if b p = 58 then f_M_parse_238 F (fun x1 x2 x3 I => g (x1, x2, x3, I)) (nI o) t 58 K else if b p = 59 then f_M_parse_238 F (fun x1 x2 x3 I => g (x1, x2, x3, I)) (nI o) t 59 K else some (nI p, K)) := by
  obtain ⟨e1, e2⟩ := rp_tx tx hK
  have h120 := tx.1
  have hc := tx.2.1 p
  unfold m_lp
  dsimp only
  unfold f_M_parse_19b
  rw [e1, hK.2.1, if_neg (nI_ge hp (by omega)), if_pos (j_ok_nI (show p < 120 by omega) (by decide)), j_letE, j_ix_nI (by omega), e2 p hp, if_pos (show (0 : Int32) = 0 from rfl), e_sg hc, j_bdS, hw, if_pos (show nI 0 ≤ 0 by decide)]
  by_cases c1 : b p = 41
  · rw [if_pos (show t_b (b p) = 41 by rw [c1]; rfl), if_pos c1]
  · rw [if_neg (show ¬ t_b (b p) = 41 from t_nq (m := 41) c1 hc (by decide)), if_neg c1]
    by_cases c2 : b p = 58
    · rw [if_pos (show t_b (b p) = 58 by rw [c2]; rfl), if_pos c2, show t_b (b p) = 58 by rw [c2]; rfl]
    · rw [if_neg (show ¬ t_b (b p) = 58 from t_nq (m := 58) c2 hc (by decide)), if_neg c2]
      by_cases c3 : b p = 59
      · rw [if_pos (show t_b (b p) = 59 by rw [c3]; rfl), if_pos c3, show t_b (b p) = 59 by rw [c3]; rfl]
      · rw [if_neg (show ¬ t_b (b p) = 59 from t_nq (m := 59) c3 hc (by decide)), if_neg c3, hK.2.1]
theorem dn_all {F o p : Nat} {K0 K : j_M} {ps : List Nat} {out : List (Nat × Int32)} (hF : 20000000 < F) (ho : o < 30) (hps : ∀ x, x ∈ ps → iop x) (hb : ps.length + out.length ≤ 120) (h : m_rp K0 o p ps out K) : ∃ K', f_M_done F (nI o) 1 K = some (0, K') ∧ m_rp K0 o p [] (out ++ m_mp ps) K' := by
  obtain ⟨K1, d1, d2⟩ := e_done (F := F) (fr := 1) (ps := ps) (W := []) (out := out) (K := K) hF ho (by decide) (by decide) (fun x hx => ⟨hps x hx, by have := (iop_tight (hps x hx)).1; omega⟩) (fun w W' h => by cases h) (by simp; omega) (by rw [List.append_nil]; exact h)
  exact ⟨K1, d1, d2⟩
theorem dn_open {F o p : Nat} {K0 K : j_M} {ps W : List Nat} {out : List (Nat × Int32)} (hF : 20000000 < F) (ho : o < 30) (hps : ∀ x, x ∈ ps → iop x) (hb : ps.length + (4 :: W).length + out.length ≤ 120) (h : m_rp K0 o p (ps ++ 4 :: W) out K) : ∃ K', f_M_done F (nI o) 1 K = some (0, K') ∧ m_rp K0 o p (4 :: W) (out ++ m_mp ps) K' := by
  obtain ⟨K1, d1, d2⟩ := e_done (F := F) (fr := 1) (ps := ps) (W := 4 :: W) (out := out) (K := K) hF ho (by decide) (by decide) (fun x hx => ⟨hps x hx, by have := (iop_tight (hps x hx)).1; omega⟩) (fun w W' h => by cases h; decide) (by omega) h
  exact ⟨K1, d1, d2⟩
theorem sg41 : sg 41 = 0 := rfl
theorem sg58 : sg 58 = 0 := rfl
theorem sg59 : sg 59 = 0 := rfl
theorem tk_close {F n o p : Nat} {b : Nat → Nat} {K0 : j_M} {t : Int32} {ps W : List Nat} {out : List (Nat × Int32)} (hF : 20000000 < F) (tx : m_tx n b K0) (ho : o < 30) (hp : p < n) (hb : ps.length + (4 :: W).length + out.length ≤ p) (hps : ∀ x, x ∈ ps → iop x) (hc : b p = 41) : m_go F n o K0 p 0 t (ps ++ 4 :: W) out (p + 1) 0 t W (out ++ m_mp ps) := by
  have h120 := tx.1
  refine go_step (by omega) hp (fun g K hK => ?_)
  obtain ⟨K1, d1, d2⟩ := dn_open (F := F) hF ho hps (by omega) hK
  refine ⟨_, rp_at (rp_pop d2) (p + 1), ?_⟩
  have w0 : K1 215 60 = nI (W.length + 1) := d2.2.2.1
  have hl : W.length + 1 ≤ 120 := by simp at hb; omega
  have u1 : (j_wr K1 215 60 (nI W.length)) 215 62 = nI p := (rp_pop d2).2.1
  rw [lp_non tx hp hK (by rw [hc]; rfl), if_pos hc, d1, j_bdS, w0, if_neg (nI_ne0 (by omega) (by omega)), nI_pred, j_letE]
  unfold f_M_parse_308
  rw [u1, j_letE, nI_1]
theorem tk_closeE {F n o p : Nat} {b : Nat → Nat} {K0 : j_M} {t : Int32} {ps : List Nat} {out : List (Nat × Int32)} (hF : 20000000 < F) (tx : m_tx n b K0) (ho : o < 30) (hp : p < n) (hb : ps.length + out.length ≤ p) (hps : ∀ x, x ∈ ps → iop x) (hc : b p = 41) : m_en F n o K0 p 0 t ps out p := by
  have h120 := tx.1
  refine en_step (fun g K hK => ?_)
  obtain ⟨K1, d1, d2⟩ := dn_all (F := F) hF ho hps (by omega) hK
  refine ⟨_, _, _, K1, d2, ?_⟩
  have w0 : K1 215 60 = nI 0 := d2.2.2.1
  rw [lp_non tx hp hK (by rw [hc]; rfl), if_pos hc, d1, j_bdS, w0, if_pos (show nI 0 = 0 from rfl), d2.2.1]
theorem tk_inner {F n o p : Nat} {b : Nat → Nat} {K0 : j_M} {t : Int32} {ps W : List Nat} {out : List (Nat × Int32)} (hF : 20000000 < F) (tx : m_tx n b K0) (ho : o < 30) (hp : p < n) (hb : ps.length + (4 :: W).length + out.length ≤ p) (hps : ∀ x, x ∈ ps → iop x) (hc : b p = 58 ∨ b p = 59) : m_en F n o K0 p 0 t (ps ++ 4 :: W) out p := by
  have h120 := tx.1
  refine en_step (fun g K hK => ?_)
  obtain ⟨K1, d1, d2⟩ := dn_open (F := F) hF ho hps (by omega) hK
  refine ⟨_, _, _, K1, d2, ?_⟩
  have w0 : K1 215 60 = nI (W.length + 1) := d2.2.2.1
  have hl : W.length + 1 ≤ 120 := by simp at hb; omega
  have key : ∀ x4, f_M_parse_238 F (fun x1 x2 x3 I => g (x1, x2, x3, I)) (nI o) t x4 K = some (nI p, K1) := fun x4 => by
    unfold f_M_parse_238
    rw [d1, j_bdS, w0, if_pos (show (0 : Int32) < nI (W.length + 1) from nI_lt (a := 0) (by omega) (by omega)), d2.2.1]
  rcases hc with hc | hc
  · rw [lp_non tx hp hK (by rw [hc]; rfl), if_neg (by omega), if_pos hc, key]
  · rw [lp_non tx hp hK (by rw [hc]; rfl), if_neg (by omega), if_neg (by omega), if_pos hc, key]
theorem tk_colon {F n o p : Nat} {b : Nat → Nat} {K0 : j_M} {ps : List Nat} {out : List (Nat × Int32)} (hF : 20000000 < F) (tx : m_tx n b K0) (ho : o < 30) (hp : p < n) (hb : ps.length + out.length ≤ p) (hps : ∀ x, x ∈ ps → iop x) (hc : b p = 58) : m_go F n o K0 p 0 0 ps out (p + 1) 1 1 [] (out ++ m_mp ps ++ [(2, 0)]) := by
  have h120 := tx.1
  refine go_step (by omega) hp (fun g K hK => ?_)
  obtain ⟨K1, d1, d2⟩ := dn_all (F := F) hF ho hps (by omega) hK
  obtain ⟨K2, l1, l2⟩ := e_lay (F := F) (a := 2) (x := 0) d2 ho (by simp; omega)
  have l1' : f_M_lay F (nI o) 2 0 K1 = some (0, K2) := l1
  refine ⟨_, rp_at l2 (p + 1), ?_⟩
  have w0 : K1 215 60 = nI 0 := d2.2.2.1
  rw [lp_non tx hp hK (by rw [hc]; rfl), if_neg (by omega), if_pos hc]
  unfold f_M_parse_238 f_M_parse_267 f_M_parse_281 f_M_parse_297 f_M_parse_308
  rw [d1, j_bdS, w0, if_neg (show ¬ (0 : Int32) < nI 0 by decide), if_pos (show (58 : Int32) = 58 from rfl), if_pos (show (0 : Int32) = 0 from rfl), if_pos (show (58 : Int32) = 58 from rfl), l1', j_bdS, if_pos (show (58 : Int32) = 58 from rfl), l2.2.1, j_letE, nI_1]
theorem tk_colon1 {F n o p : Nat} {b : Nat → Nat} {K0 : j_M} {ps : List Nat} {out : List (Nat × Int32)} (hF : 20000000 < F) (tx : m_tx n b K0) (ho : o < 30) (hp : p < n) (hb : ps.length + out.length ≤ p) (hps : ∀ x, x ∈ ps → iop x) (hc : b p = 58) : m_en F n o K0 p 0 1 ps out p := by
  have h120 := tx.1
  refine en_step (fun g K hK => ?_)
  obtain ⟨K1, d1, d2⟩ := dn_all (F := F) hF ho hps (by omega) hK
  refine ⟨_, _, _, K1, d2, ?_⟩
  have w0 : K1 215 60 = nI 0 := d2.2.2.1
  rw [lp_non tx hp hK (by rw [hc]; rfl), if_neg (by omega), if_pos hc]
  unfold f_M_parse_238
  rw [d1, j_bdS, w0, if_neg (show ¬ (0 : Int32) < nI 0 by decide), if_pos (show (58 : Int32) = 58 from rfl), if_neg (show ¬ (1 : Int32) = 0 by decide), d2.2.1]
theorem tk_semi {F n o p : Nat} {b : Nat → Nat} {K0 : j_M} {t : Int32} {ps : List Nat} {out : List (Nat × Int32)} (hF : 20000000 < F) (tx : m_tx n b K0) (ho : o < 30) (hp : p < n) (hb : ps.length + out.length ≤ p) (hps : ∀ x, x ∈ ps → iop x) (hc : b p = 59) : m_go F n o K0 p 0 t ps out (p + 1) 1 0 [] (out ++ m_mp ps ++ [(3, 0)]) := by
  have h120 := tx.1
  refine go_step (by omega) hp (fun g K hK => ?_)
  obtain ⟨K1, d1, d2⟩ := dn_all (F := F) hF ho hps (by omega) hK
  obtain ⟨K2, l1, l2⟩ := e_lay (F := F) (a := 3) (x := 0) d2 ho (by simp; omega)
  have l1' : f_M_lay F (nI o) 3 0 K1 = some (0, K2) := l1
  refine ⟨_, rp_at l2 (p + 1), ?_⟩
  have w0 : K1 215 60 = nI 0 := d2.2.2.1
  have n1 : ¬ (59 : Int32) = 58 := by decide
  rw [lp_non tx hp hK (by rw [hc]; rfl), if_neg (by omega), if_neg (by omega), if_pos hc]
  unfold f_M_parse_238 f_M_parse_267 f_M_parse_281 f_M_parse_297 f_M_parse_308
  rw [d1, j_bdS, w0, if_neg (show ¬ (0 : Int32) < nI 0 by decide), if_neg n1, if_neg n1, l1', j_bdS, if_neg n1, l2.2.1, j_letE, nI_1]
theorem tk_other {F n o p : Nat} {b : Nat → Nat} {K0 : j_M} {t : Int32} {W : List Nat} {out : List (Nat × Int32)} (tx : m_tx n b K0) (hp : p < n) (hs : sg (b p) = 0) (h1 : b p ≠ 41) (h2 : b p ≠ 58) (h3 : b p ≠ 59) : m_en F n o K0 p 0 t W out p := by
  refine en_step (fun g K hK => ⟨_, _, _, K, hK, ?_⟩)
  rw [lp_non tx hp hK hs, if_neg h1, if_neg h2, if_neg h3]
/-- what may follow -/
def fol (n : Nat) (b : Nat → Nat) (l p : Nat) : Prop := p = n ∨ (p < n ∧ (sg (b p) = 0 ∨ sg (b p) / 10 < 4 + l))
def fol0 (n : Nat) (b : Nat → Nat) (l : Nat) (ps : List Nat) (p : Nat) : Prop := fol n b l p ∨ (l = 0 ∧ fol n b 1 p ∧ ∃ ps' r, ps = ps' ++ [r] ∧ r / 10 = 4 ∧ ∀ x, x ∈ ps' → iop x ∧ 5 ≤ x / 10)
theorem tk_stop {F n o p : Nat} {b : Nat → Nat} {K0 : j_M} {t : Int32} {ps W : List Nat} {out : List (Nat × Int32)} (hF : 20000000 < F) (tx : m_tx n b K0) (ho : o < 30) (hb : ps.length + (4 :: W).length + out.length ≤ p) (hps : ∀ x, x ∈ ps → iop x) (hf : fol0 n b 0 ps p) (hc : ¬ (p < n ∧ b p = 41)) : m_en F n o K0 p 0 t (ps ++ 4 :: W) out p := by
  have rest : p < n → sg (b p) = 0 → m_en F n o K0 p 0 t (ps ++ 4 :: W) out p := fun hp hs => by
    by_cases c : b p = 58 ∨ b p = 59
    · exact tk_inner hF tx ho hp hb hps c
    · exact tk_other tx hp hs (fun z => hc ⟨hp, z⟩) (fun z => c (Or.inl z)) (fun z => c (Or.inr z))
  have atn : p = n → m_en F n o K0 p 0 t (ps ++ 4 :: W) out p := fun e => by subst e; exact tk_finE hF tx ho hps hb
  rcases hf with hf | ⟨-, hf, ps', r, e, hr, hps'⟩
  · rcases hf with e | ⟨hp, z⟩
    · exact atn e
    · refine rest hp ?_
      rcases z with z | z
      · exact z
      · rcases Nat.eq_zero_or_pos (sg (b p)) with y | y
        · exact y
        · have := (iop_tight (sg_iop (show sg (b p) ≠ 0 by omega))).1; omega
  · rcases hf with e | ⟨hp, z⟩
    · exact atn e
    · by_cases s0 : sg (b p) = 0
      · exact rest hp s0
      · have q := (iop_tight (sg_iop s0)).1
        have q4 : sg (b p) / 10 = 4 := by
          rcases z with z | z
          · exact absurd z s0
          · omega
        subst e
        rw [List.append_assoc]
        exact tk_rel hF tx ho hp (by simp at hb ⊢; omega) q4 hps' hr
theorem tk_top {F n o p : Nat} {b : Nat → Nat} {K0 : j_M} {t : Int32} {ps : List Nat} {out : List (Nat × Int32)} (hF : 20000000 < F) (tx : m_tx n b K0) (ho : o < 30) (hp : p < n) (hb : ps.length + out.length ≤ p) (hps : ∀ x, x ∈ ps → iop x) (hf : fol0 n b 0 ps p) (h58 : b p = 58 → t = 1) (h59 : b p ≠ 59) : m_en F n o K0 p 0 t ps out p := by
  have rest : sg (b p) = 0 → m_en F n o K0 p 0 t ps out p := fun hs => by
    by_cases c : b p = 58
    · rw [h58 c]; exact tk_colon1 hF tx ho hp hb hps c
    · by_cases c2 : b p = 41
      · exact tk_closeE hF tx ho hp hb hps c2
      · exact tk_other tx hp hs c2 c h59
  rcases hf with hf | ⟨-, hf, ps', r, e, hr, hps'⟩
  · rcases hf with e | ⟨-, z⟩
    · omega
    · refine rest ?_
      rcases z with z | z
      · exact z
      · rcases Nat.eq_zero_or_pos (sg (b p)) with y | y
        · exact y
        · have := (iop_tight (sg_iop (show sg (b p) ≠ 0 by omega))).1; omega
  · rcases hf with e | ⟨-, z⟩
    · omega
    · by_cases s0 : sg (b p) = 0
      · exact rest s0
      · have q := (iop_tight (sg_iop s0)).1
        have q4 : sg (b p) / 10 = 4 := by
          rcases z with z | z
          · exact absurd z s0
          · omega
        subst e
        exact tk_rel (W := []) hF tx ho hp (by simp at hb ⊢; omega) q4 hps' hr
