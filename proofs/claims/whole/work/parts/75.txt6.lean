/-! price texts: expressions -/
def s_G (F n o B : Nat) (b : Nat → Nat) (nm : Nat → Int32) (J0 K0 : j_M) (l d p i : Nat) (v : Int32) (p' : Nat) (J' : j_M) : Prop := ∃ ov ps, c_rp J0 B n p' (-1) J' ∧ p < p' ∧ p' ≤ n ∧ ov.length + ps.length ≤ p' - p ∧ i < p' - p ∧ x_gv nm (ov ++ m_mp ps) v ∧ (∀ x, x ∈ ps → iop x ∧ 4 + l ≤ x / 10) ∧ fol n b (l + 1) p' ∧ ((i = 0 ∧ ∀ x, x ∈ ps → 5 + l ≤ x / 10) ∨ (1 ≤ i ∧ ∃ ps' r, ps = ps' ++ [r] ∧ r / 10 = 4 + l ∧ ∀ x, x ∈ ps' → iop x ∧ 5 + l ≤ x / 10)) ∧ ∀ (t : Int32) (W : List Nat) (out : List (Nat × Int32)), s_P l d p W out → m_go F n o K0 p 1 t W out p' 0 t (ps ++ W) (out ++ ov)
theorem s_loop {F n o B l d p k mo : Nat} {b : Nat → Nat} {nm : Nat → Int32} {J0 K0 J : j_M} {v : Int32} (hF : 20000000 < F) (ct : c_tx n b nm B J0) (tx : m_tx n b K0) (ho : o < 30) (hl : l ≤ 2) (hmo : (l = 0 ∧ mo = 1) ∨ (1 ≤ l ∧ mo = 120)) (sub : ∀ p J, p ≤ n → c_rp J0 B n p (-1) J → j_wpo (f_Re_rec F k 0 (nI (l + 1)) (nI d) J) (s_Q F n o B b nm J0 K0 (l + 1) d p)) (h : (∃ p', s_G F n o B b nm J0 K0 l d p 0 v p' J) ∨ (∃ p', c_rp J0 B n p' (-1) J ∧ p < p' ∧ p' < n ∧ dgt (b p') ∧ ∀ (t : Int32) (W : List Nat) (out : List (Nat × Int32)), s_P l d p W out → m_en F n o K0 p 1 t W out p') ∨ (∃ p' pos, c_rp J0 B n p' (nI pos) J ∧ pos ≤ n ∧ ∀ (t : Int32) (W : List Nat) (out : List (Nat × Int32)), s_P l d p W out → m_en F n o K0 p 1 t W out pos)) : j_wpo (f_Re_expression_35 F (f_Re_rec F k) (nI l) (nI d) v (nI mo) 0 J) (s_Q F n o B b nm J0 K0 l d p) := by
  have h120 := ct.1
  unfold f_Re_expression_35
  refine j_it_wp (Inv := fun r q => ∃ i v J, i ≤ 120 ∧ q = (nI l, nI d, v, nI mo, nI i, J) ∧ ((∃ p', n - p' < r ∧ s_G F n o B b nm J0 K0 l d p i v p' J) ∨ (∃ p', c_rp J0 B n p' (-1) J ∧ p < p' ∧ p' < n ∧ dgt (b p') ∧ ∀ (t : Int32) (W : List Nat) (out : List (Nat × Int32)), s_P l d p W out → m_en F n o K0 p 1 t W out p') ∨ (∃ p' pos, c_rp J0 B n p' (nI pos) J ∧ pos ≤ n ∧ ∀ (t : Int32) (W : List Nat) (out : List (Nat × Int32)), s_P l d p W out → m_en F n o K0 p 1 t W out pos))) ?_ F (n + 1) _ (by omega) ⟨0, v, J, by omega, rfl, ?_⟩
  · intro r q again hq hag
    obtain ⟨i, v, J, hi, rfl, hh⟩ := hq
    dsimp only
    unfold f_Re_expression_35b
    rcases hh with ⟨p', hr, ov, ps, r2, q1, q2, q3, q4, q5, q6, q7, q8, q9⟩ | ⟨p', r2, q1, q2, q3, q4⟩ | ⟨p', pos, r2, q1, q2⟩
    · by_cases cm : mo ≤ i
      · have hl0 : l = 0 := by
          rcases hmo with z | z
          · exact z.1
          · omega
        have hmo1 : mo = 1 := by
          rcases hmo with z | z
          · exact z.2
          · omega
        rw [if_pos (nI_le cm (by omega))]
        subst hl0
        refine wpo_some (Or.inl ⟨p', ov, ps, r2, q1, q2, q3, q5, q6, Or.inr ⟨rfl, q7, ?_⟩, q9⟩)
        rcases q8 with z | ⟨_, z⟩
        · exact absurd z.1 (by omega)
        · exact z
      · rw [if_neg (nI_ge (by omega) (by omega)), c_nx ct q2 r2, j_bdS]
        have ret : fol n b l p' → j_wpo (some (v, J)) (s_Q F n o B b nm J0 K0 l d p) := fun hf => wpo_some (Or.inl ⟨p', ov, ps, r2, q1, q2, q3, q5, q6, Or.inl hf, q9⟩)
        unfold cnx
        by_cases cp : p' < n
        · have hc := ct.2.1 p'
          rw [if_pos cp, e_lv hc, j_bdS]
          by_cases s0 : sg (b p') = 0
          · rw [if_pos s0, if_neg (show ¬ (-1 : Int32) = nI l from fun z => nI_nem (by omega) z.symm)]
            exact ret (Or.inr ⟨cp, Or.inl s0⟩)
          · have qs := iop_tight (sg_iop s0)
            have f1 : sg (b p') / 10 < 4 + (l + 1) := by
              rcases q7 with z | ⟨_, z | z⟩
              · omega
              · exact absurd z s0
              · exact z
            rw [if_neg s0]
            by_cases cl : sg (b p') / 10 = 4 + l
            · rw [if_pos (show nI (sg (b p') / 10 - 4) = nI l by rw [cl]; congr 1; omega), c_nx ct q2 r2, j_bdS, j_letE, nI_1]
              have cn : cnx n b p' = nI (b p') := if_pos cp
              rw [cn]
              refine wpo_bd (wpo_mono (sub (p' + 1) _ (by omega) (c_adv r2)) ?_)
              have hps : ∀ x, x ∈ ps → iop x ∧ (if sg (b p') / 10 = 4 then 5 else sg (b p') / 10) ≤ x / 10 := fun x hx => by
                refine ⟨(q6 x hx).1, ?_⟩
                by_cases c4 : sg (b p') / 10 = 4
                · rw [if_pos c4]
                  have hl0 : l = 0 := by omega
                  rcases q8 with z | z
                  · have := z.2 x hx; omega
                  · omega
                · rw [if_neg c4]; have := (q6 x hx).2; omega
              have gop : ∀ (t : Int32) W out, s_P l d p W out → m_go F n o K0 p 1 t W out (p' + 1) 1 t (sg (b p') :: W) (out ++ ov ++ m_mp ps) ∧ s_P (l + 1) d (p' + 1) (sg (b p') :: W) (out ++ ov ++ m_mp ps) := fun t W out hP => by
                have hP1 := hP.1
                refine ⟨go_tr (q9 t W out hP) (tk_op (ps := ps) (W := W) (out := out ++ ov) hF tx ho cp (by simp; omega) s0 hps (fun w W' hW => by have := hP.2.2.2 w W' hW; omega)), by simp; omega, fun w hw => ?_, ?_, fun w W' hW => ?_⟩
                · rcases List.mem_cons.mp hw with z | z
                  · rw [z]; exact Or.inr (sg_iop s0)
                  · exact hP.2.1 w z
                · rw [List.count_cons_of_ne (by omega)]; exact hP.2.2.1
                · cases hW; omega
              rintro v8 J9 (⟨p2, ov2, ps2, r3, a1, a2, a3, a4, a5, a6, a7⟩ | ⟨p2, r3, a1, a2, a3, a4⟩ | ⟨p2, pos, r3, a1, a2⟩)
              · rw [e_joined s0, j_bdS, j_letE, nI_1]
                refine hag _ (n - p2 + 1) (by omega) ⟨i + 1, _, J9, by omega, rfl, Or.inl ⟨p2, by omega, ov ++ m_mp ps ++ ov2, ps2 ++ [sg (b p')], r3, by omega, a2, by simp; omega, by omega, ?_, fun x hx => ?_, ?_, Or.inr ⟨by omega, ps2, sg (b p'), rfl, cl, fun x hx => ⟨(a5 x hx).1, by have := (a5 x hx).2; omega⟩⟩, fun t W out hP => ?_⟩⟩
                · have g := gv_bin q5 a4 (sg_iop s0)
                  have e : ov ++ m_mp ps ++ ov2 ++ m_mp (ps2 ++ [sg (b p')]) = ov ++ m_mp ps ++ (ov2 ++ m_mp ps2) ++ [(sg (b p'), 0)] := by simp
                  rw [e]; exact g
                · rcases List.mem_append.mp hx with z | z
                  · exact ⟨(a5 x z).1, by have := (a5 x z).2; omega⟩
                  · have : x = sg (b p') := by simpa using z
                    rw [this]; exact ⟨sg_iop s0, by omega⟩
                · rcases a6 with z | ⟨z, _⟩
                  · exact z
                  · omega
                · have g := go_tr (gop t W out hP).1 (a7 t _ _ (gop t W out hP).2)
                  have e1 : ps2 ++ [sg (b p')] ++ W = ps2 ++ sg (b p') :: W := by simp
                  have e2 : out ++ (ov ++ m_mp ps ++ ov2) = out ++ ov ++ m_mp ps ++ ov2 := by simp
                  rw [e1, e2]; exact g
              · rw [e_joined s0, j_bdS, j_letE, nI_1]
                exact hag _ 0 (by omega) ⟨i + 1, _, J9, by omega, rfl, Or.inr (Or.inl ⟨p2, r3, by omega, a2, a3, fun t W out hP => go_en (gop t W out hP).1 (a4 t _ _ (gop t W out hP).2)⟩)⟩
              · rw [e_joined s0, j_bdS, j_letE, nI_1]
                exact hag _ 0 (by omega) ⟨i + 1, _, J9, by omega, rfl, Or.inr (Or.inr ⟨p2, pos, r3, a1, fun t W out hP => go_en (gop t W out hP).1 (a2 t _ _ (gop t W out hP).2)⟩)⟩
            · rw [if_neg (show ¬ nI (sg (b p') / 10 - 4) = nI l from nI_ne (by omega) (by omega) (by omega))]
              exact ret (Or.inr ⟨cp, Or.inr (by omega)⟩)
        · rw [if_neg cp, e_lvm, j_bdS, if_neg (show ¬ (-1 : Int32) = nI l from fun z => nI_nem (by omega) z.symm)]
          exact ret (Or.inl (by omega))
    · have ret : j_wpo (some (v, J)) (s_Q F n o B b nm J0 K0 l d p) := wpo_some (Or.inr (Or.inl ⟨p', r2, q1, q2, q3, q4⟩))
      refine wpo_ite (fun _ => ret) (fun _ => ?_)
      rw [c_nx ct (by omega) r2, j_bdS]
      unfold cnx
      rw [if_pos q2, e_lv (ct.2.1 p'), j_bdS, if_pos (dgt_not q3).2.2.1, if_neg (show ¬ (-1 : Int32) = nI l from fun z => nI_nem (by omega) z.symm)]
      exact ret
    · have ret : j_wpo (some (v, J)) (s_Q F n o B b nm J0 K0 l d p) := wpo_some (Or.inr (Or.inr ⟨p', pos, r2, q1, q2⟩))
      refine wpo_ite (fun _ => ret) (fun _ => ?_)
      rw [c_nxf (nI_nem (by omega)) r2, j_bdS, e_lvm, j_bdS, if_neg (show ¬ (-1 : Int32) = nI l from fun z => nI_nem (by omega) z.symm)]
      exact ret
  · rcases h with ⟨p', z⟩ | z
    · exact Or.inl ⟨p', by omega, z⟩
    · exact Or.inr z
theorem s_exprL {F n o B l d p k : Nat} {b : Nat → Nat} {nm : Nat → Int32} {J0 K0 J : j_M} (hF : 20000000 < F) (ct : c_tx n b nm B J0) (tx : m_tx n b K0) (ho : o < 30) (hl : l ≤ 2) (sub : ∀ p J, p ≤ n → c_rp J0 B n p (-1) J → j_wpo (f_Re_rec F k 0 (nI (l + 1)) (nI d) J) (s_Q F n o B b nm J0 K0 (l + 1) d p)) (hp : p ≤ n) (h : c_rp J0 B n p (-1) J) : j_wpo (f_Re_rec F (k + 1) 0 (nI l) (nI d) J) (s_Q F n o B b nm J0 K0 l d p) := by
  have h120 := ct.1
  rw [f_Re_rec, if_pos rfl]
  unfold f_Re_expression
  rw [if_pos (show nI l ≤ 2 from nI_le (b := 2) hl (by decide)), nI_1]
  have toP : ∀ W out, s_P l d p W out → s_P (l + 1) d p W out := fun W out hP => ⟨hP.1, hP.2.1, hP.2.2.1, fun w W' hW => by have := hP.2.2.2 w W' hW; omega⟩
  refine wpo_bd (wpo_mono (sub p J hp h) ?_)
  intro v J2 hq
  have st : (∃ p', s_G F n o B b nm J0 K0 l d p 0 v p' J2) ∨ (∃ p', c_rp J0 B n p' (-1) J2 ∧ p < p' ∧ p' < n ∧ dgt (b p') ∧ ∀ (t : Int32) (W : List Nat) (out : List (Nat × Int32)), s_P l d p W out → m_en F n o K0 p 1 t W out p') ∨ (∃ p' pos, c_rp J0 B n p' (nI pos) J2 ∧ pos ≤ n ∧ ∀ (t : Int32) (W : List Nat) (out : List (Nat × Int32)), s_P l d p W out → m_en F n o K0 p 1 t W out pos) := by
    rcases hq with ⟨p', ov, ps, r2, q1, q2, q3, q4, q5, q6, q7⟩ | ⟨p', r2, q1, q2, q3, q4⟩ | ⟨p', pos, r2, q1, q2⟩
    · refine Or.inl ⟨p', ov, ps, r2, q1, q2, q3, by omega, q4, fun x hx => ⟨(q5 x hx).1, by have := (q5 x hx).2; omega⟩, ?_, Or.inl ⟨rfl, fun x hx => by have := (q5 x hx).2; omega⟩, fun t W out hP => q7 t W out (toP W out hP)⟩
      rcases q6 with z | ⟨z, _⟩
      · exact z
      · omega
    · exact Or.inr (Or.inl ⟨p', r2, q1, q2, q3, fun t W out hP => q4 t W out (toP W out hP)⟩)
    · exact Or.inr (Or.inr ⟨p', pos, r2, q1, fun t W out hP => q2 t W out (toP W out hP)⟩)
  unfold f_Re_expression_30
  by_cases c : l = 0
  · subst c
    rw [if_pos (show nI 0 = 0 from rfl)]
    exact s_loop (mo := 1) hF ct tx ho hl (Or.inl ⟨rfl, rfl⟩) sub st
  · rw [if_neg (show ¬ nI l = 0 from nI_ne0 (by omega) (by omega))]
    exact s_loop (mo := 120) hF ct tx ho hl (Or.inr ⟨by omega, rfl⟩) sub st
theorem s_main {F n o B : Nat} {b : Nat → Nat} {nm : Nat → Int32} {J0 K0 : j_M} (hF : 20000000 < F) (ct : c_tx n b nm B J0) (tx : m_tx n b K0) (ho : o < 30) : ∀ (m d k : Nat), m + d = 8 → 5 * m + 5 ≤ k → ∀ p J, p ≤ n → c_rp J0 B n p (-1) J → j_wpo (f_Re_rec F k 0 0 (nI d) J) (s_Q F n o B b nm J0 K0 0 d p) := by
  intro m
  induction m with
  | zero =>
    intro d k hd hk p J hp h
    obtain ⟨k, rfl⟩ : ∃ j, k = j + 5 := ⟨k - 5, by omega⟩
    refine s_exprL (l := 0) hF ct tx ho (by decide) (fun p J hp h => ?_) hp h
    refine s_exprL (l := 1) hF ct tx ho (by decide) (fun p J hp h => ?_) hp h
    refine s_exprL (l := 2) hF ct tx ho (by decide) (fun p J hp h => ?_) hp h
    rw [f_Re_rec, if_pos rfl]
    unfold f_Re_expression
    rw [if_neg (show ¬ nI (2 + 1) ≤ 2 by decide), bd_id, f_Re_rec, if_neg (by decide)]
    exact s_opd hF ct tx ho (by omega) hp h (fun z => by omega)
  | succ m ih =>
    intro d k hd hk p J hp h
    obtain ⟨k, rfl⟩ : ∃ j, k = j + 5 := ⟨k - 5, by omega⟩
    refine s_exprL (l := 0) hF ct tx ho (by decide) (fun p J hp h => ?_) hp h
    refine s_exprL (l := 1) hF ct tx ho (by decide) (fun p J hp h => ?_) hp h
    refine s_exprL (l := 2) hF ct tx ho (by decide) (fun p J hp h => ?_) hp h
    rw [f_Re_rec, if_pos rfl]
    unfold f_Re_expression
    rw [if_neg (show ¬ nI (2 + 1) ≤ 2 by decide), bd_id, f_Re_rec, if_neg (by decide)]
    exact s_opd hF ct tx ho (by omega) hp h (fun _ p J hp h => ih (d + 1) k (by omega) (by omega) p J hp h)
