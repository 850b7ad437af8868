/-! price texts: bytes, signs, what steps come to -/
def t_b (c : Nat) : Int32 := if c < 128 then nI c else nI c - 256
theorem t_of {x : Int32} (h : x.toInt8.toInt32 = x) : ∃ c, c < 256 ∧ x &&& 255 = nI c ∧ x = t_b c := by
  refine ⟨x.toBitVec.toNat % 2 ^ 8, Nat.mod_lt _ (by decide), pk_and x 8 (by decide), ?_⟩
  have h1 : x.toInt = x.toInt.bmod 256 := by
    have := congrArg Int32.toInt h
    rw [Int8.toInt_toInt32, Int32.toInt_toInt8] at this
    exact this.symm
  have h2 : -128 ≤ x.toInt ∧ x.toInt < 128 := by
    rw [h1]
    have a := Int.le_bmod (x := x.toInt) (m := 256) (by decide)
    have b := Int.bmod_lt (x := x.toInt) (m := 256) (by decide)
    omega
  have h3 : x.toInt = if 2 * x.toBitVec.toNat < 2 ^ 32 then (x.toBitVec.toNat : Int) else (x.toBitVec.toNat : Int) - 2 ^ 32 := by
    have := BitVec.toInt_eq_toNat_cond x.toBitVec
    simpa using this
  have h4 : x.toBitVec.toNat < 2 ^ 32 := x.toBitVec.isLt
  apply Int32.toInt_inj.mp
  unfold t_b
  by_cases c : 2 * x.toBitVec.toNat < 2 ^ 32
  · rw [if_pos c] at h3
    have e : x.toBitVec.toNat % 2 ^ 8 = x.toBitVec.toNat := Nat.mod_eq_of_lt (by omega)
    rw [e, if_pos (by omega), nI_toInt (by omega)]
    exact h3
  · rw [if_neg c] at h3
    have e : x.toBitVec.toNat % 2 ^ 8 = x.toBitVec.toNat + 256 - 2 ^ 32 := by omega
    rw [e, if_neg (by omega), show (256 : Int32) = nI 256 from rfl, pk_sub_toInt (by omega) (by omega)]
    omega
theorem t_lo {c : Nat} (h : c < 128) : t_b c = nI c := if_pos h
theorem t_neg {c : Nat} (h : c < 256) (h2 : 128 ≤ c) : t_b c < 0 := by
  unfold t_b
  rw [if_neg (by omega)]
  exact pk_sneg (a := c) (b := 256) (by omega) h
theorem t_eq {c m : Nat} (hc : c < 256) (hm : m < 128) : t_b c = nI m ↔ c = m := by
  by_cases h : c < 128
  · rw [t_lo h]; exact nI_eq (by omega) (by omega)
  · constructor
    · intro z
      have := t_neg hc (by omega)
      rw [z] at this
      exact absurd this (nI_pos (by omega))
    · intro z; omega
theorem t_nq {c m : Nat} (h : c ≠ m) (hc : c < 256) (hm : m < 128) : ¬ t_b c = nI m := fun z => h ((t_eq hc hm).mp z)
def dgt (c : Nat) : Prop := 48 ≤ c ∧ c ≤ 57
theorem t_dg {c : Nat} (hc : c < 256) : ((48 : Int32) ≤ t_b c ∧ t_b c ≤ 57) ↔ dgt c := by
  unfold dgt
  by_cases h : c < 128
  · rw [t_lo h]
    exact and_congr (nI_leI (a := 48) (by decide) (by omega)) (nI_leI (b := 57) (by omega) (by decide))
  · constructor
    · intro z
      have := Int32.lt_of_le_of_lt z.1 (t_neg hc (by omega))
      exact absurd this (by decide)
    · intro z; omega
def sg (c : Nat) : Nat := if c = 42 then 60 else if c = 43 then 50 else if c = 45 then 51 else if c = 47 then 61 else if c = 60 then 40 else if c = 61 then 41 else if c = 62 then 42 else 0
def iop (w : Nat) : Prop := w = 40 ∨ w = 41 ∨ w = 42 ∨ w = 50 ∨ w = 51 ∨ w = 60 ∨ w = 61
theorem sg_cases (c : Nat) : (c = 42 ∨ c = 43 ∨ c = 45 ∨ c = 47 ∨ c = 60 ∨ c = 61 ∨ c = 62) ∨ (sg c = 0 ∧ c ≠ 42 ∧ c ≠ 43 ∧ c ≠ 45 ∧ c ≠ 47 ∧ c ≠ 60 ∧ c ≠ 61 ∧ c ≠ 62) := by
  by_cases h : c = 42 ∨ c = 43 ∨ c = 45 ∨ c = 47 ∨ c = 60 ∨ c = 61 ∨ c = 62
  · exact Or.inl h
  · have h1 : c ≠ 42 := fun z => h (Or.inl z)
    have h2 : c ≠ 43 := fun z => h (by omega)
    have h3 : c ≠ 45 := fun z => h (by omega)
    have h4 : c ≠ 47 := fun z => h (by omega)
    have h5 : c ≠ 60 := fun z => h (by omega)
    have h6 : c ≠ 61 := fun z => h (by omega)
    have h7 : c ≠ 62 := fun z => h (by omega)
    refine Or.inr ⟨?_, h1, h2, h3, h4, h5, h6, h7⟩
    unfold sg
    rw [if_neg h1, if_neg h2, if_neg h3, if_neg h4, if_neg h5, if_neg h6, if_neg h7]
theorem sg_iop {c : Nat} (h : sg c ≠ 0) : iop (sg c) := by
  rcases sg_cases c with (rfl | rfl | rfl | rfl | rfl | rfl | rfl) | z
  · exact Or.inr (Or.inr (Or.inr (Or.inr (Or.inr (Or.inl rfl)))))
  · exact Or.inr (Or.inr (Or.inr (Or.inl rfl)))
  · exact Or.inr (Or.inr (Or.inr (Or.inr (Or.inl rfl))))
  · exact Or.inr (Or.inr (Or.inr (Or.inr (Or.inr (Or.inr rfl)))))
  · exact Or.inl rfl
  · exact Or.inr (Or.inl rfl)
  · exact Or.inr (Or.inr (Or.inl rfl))
  · exact absurd z.1 h
theorem iop_tight {w : Nat} (h : iop w) : 4 ≤ w / 10 ∧ w / 10 ≤ 6 ∧ w ≠ 4 ∧ 40 ≤ w ∧ w < 100 := by
  rcases h with rfl | rfl | rfl | rfl | rfl | rfl | rfl <;> decide
theorem e_lv {F c : Nat} {J : j_M} (hc : c < 256) : f_Re_levelOf F (nI c) J = some (if sg c = 0 then -1 else nI (sg c / 10 - 4), J) := by
  rcases sg_cases c with (rfl | rfl | rfl | rfl | rfl | rfl | rfl) | ⟨z, h1, h2, h3, h4, h5, h6, h7⟩
  · rfl
  · rfl
  · rfl
  · rfl
  · rfl
  · rfl
  · rfl
  · unfold f_Re_levelOf
    rw [if_neg (show ¬ nI c = 42 from nI_ne (b := 42) h1 (by omega) (by decide)), if_neg (show ¬ nI c = 43 from nI_ne (b := 43) h2 (by omega) (by decide)), if_neg (show ¬ nI c = 45 from nI_ne (b := 45) h3 (by omega) (by decide)), if_neg (show ¬ nI c = 47 from nI_ne (b := 47) h4 (by omega) (by decide)), if_neg (show ¬ nI c = 60 from nI_ne (b := 60) h5 (by omega) (by decide)), if_neg (show ¬ nI c = 61 from nI_ne (b := 61) h6 (by omega) (by decide)), if_neg (show ¬ nI c = 62 from nI_ne (b := 62) h7 (by omega) (by decide)), if_pos z]
theorem e_lvm {F : Nat} {J : j_M} : f_Re_levelOf F (-1) J = some (-1, J) := rfl
theorem e_sg {F c : Nat} {K : j_M} (hc : c < 256) : f_M_signOf F (t_b c) K = some (nI (sg c), K) := by
  rcases sg_cases c with (rfl | rfl | rfl | rfl | rfl | rfl | rfl) | ⟨z, h1, h2, h3, h4, h5, h6, h7⟩
  · rfl
  · rfl
  · rfl
  · rfl
  · rfl
  · rfl
  · rfl
  · unfold f_M_signOf
    rw [if_neg (show ¬ t_b c = 42 from t_nq (m := 42) h1 hc (by decide)), if_neg (show ¬ t_b c = 43 from t_nq (m := 43) h2 hc (by decide)), if_neg (show ¬ t_b c = 45 from t_nq (m := 45) h3 hc (by decide)), if_neg (show ¬ t_b c = 47 from t_nq (m := 47) h4 hc (by decide)), if_neg (show ¬ t_b c = 60 from t_nq (m := 60) h5 hc (by decide)), if_neg (show ¬ t_b c = 61 from t_nq (m := 61) h6 hc (by decide)), if_neg (show ¬ t_b c = 62 from t_nq (m := 62) h7 hc (by decide)), z]
    rfl
def b_both (w : Nat) (a b : Int32) : Int32 := if w = 40 then (if b ≤ a then 0 else 1) else if w = 41 then (if a = b then 1 else 0) else if w = 42 then (if a ≤ b then 0 else 1) else if w = 50 then a + b else if w = 51 then a - b else if w = 60 then a * b else (if b = 0 then 0 else a / b)
theorem ite_some {α β : Type} {c : Prop} [Decidable c] {x y : α} {J : β} : (if c then some (x, J) else some (y, J)) = some (if c then x else y, J) := by
  split <;> rfl
theorem e_joined {F c : Nat} {a b : Int32} {J : j_M} (h : sg c ≠ 0) : f_Re_joined F a (nI c) b J = some (b_both (sg c) a b, J) := by
  rcases sg_cases c with (rfl | rfl | rfl | rfl | rfl | rfl | rfl) | z
  · rfl
  · rfl
  · rfl
  · show (if b = 0 then some ((0 : Int32), J) else (if b = 0 then none else some (a / b, J))) = some ((if b = 0 then (0 : Int32) else a / b), J)
    by_cases z : b = 0
    · rw [if_pos z, if_pos z]
    · rw [if_neg z, if_neg z, if_neg z]
  · exact ite_some (c := b ≤ a)
  · exact ite_some (c := a = b)
  · exact ite_some (c := a ≤ b)
  · exact absurd z.1 h
theorem div_m1 (a : Int32) : a / (-1) = -a := by
  apply Int32.toInt_inj.mp
  rw [Int32.toInt_div, show (-1 : Int32).toInt = -1 by decide, Int32.toInt_neg]
  congr 1
  rw [Int.tdiv_neg, Int.tdiv_one]
theorem e_both {F w : Nat} {a b : Int32} {K : j_M} (h : iop w) : f_M_both F (nI w) a b K = some (b_both w a b, K) := by
  rcases h with rfl | rfl | rfl | rfl | rfl | rfl | rfl
  · exact ite_some (c := b ≤ a)
  · exact ite_some (c := a = b)
  · exact ite_some (c := a ≤ b)
  · rfl
  · rfl
  · rfl
  · show (if b = 0 then some ((0 : Int32), K) else (if b = (-1) then some (-a, K) else (if b = 0 then none else some (a / b, K)))) = some ((if b = 0 then (0 : Int32) else a / b), K)
    by_cases z : b = 0
    · rw [if_pos z, if_pos z]
    · rw [if_neg z, if_neg z, if_neg z]
      by_cases y : b = -1
      · rw [if_pos y, y, div_m1]
      · rw [if_neg y]
def ixn (c : Nat) : Nat := if c = 112 then 0 else if c = 109 then 1 else if c = 114 then 2 else if c = 110 then 3 else if c = 103 then 4 else if c = 115 then 5 else if c = 99 then 6 else if c = 116 then 7 else 8
def nam (c : Nat) : Prop := c = 112 ∨ c = 109 ∨ c = 114 ∨ c = 110 ∨ c = 103 ∨ c = 115 ∨ c = 99 ∨ c = 116
theorem nam_cases (c : Nat) : nam c ∨ (ixn c = 8 ∧ c ≠ 112 ∧ c ≠ 109 ∧ c ≠ 114 ∧ c ≠ 110 ∧ c ≠ 103 ∧ c ≠ 115 ∧ c ≠ 99 ∧ c ≠ 116) := by
  by_cases h : nam c
  · exact Or.inl h
  · unfold nam at h
    have h1 : c ≠ 112 := fun z => h (by omega)
    have h2 : c ≠ 109 := fun z => h (by omega)
    have h3 : c ≠ 114 := fun z => h (by omega)
    have h4 : c ≠ 110 := fun z => h (by omega)
    have h5 : c ≠ 103 := fun z => h (by omega)
    have h6 : c ≠ 115 := fun z => h (by omega)
    have h7 : c ≠ 99 := fun z => h (by omega)
    have h8 : c ≠ 116 := fun z => h (by omega)
    refine Or.inr ⟨?_, h1, h2, h3, h4, h5, h6, h7, h8⟩
    unfold ixn
    rw [if_neg h1, if_neg h2, if_neg h3, if_neg h4, if_neg h5, if_neg h6, if_neg h7, if_neg h8]
theorem nam_ix {c : Nat} (h : nam c) : ixn c < 8 ∧ c < 128 ∧ 58 ≤ c := by
  rcases h with rfl | rfl | rfl | rfl | rfl | rfl | rfl | rfl <;> decide
theorem e_isName {F c : Nat} {K : j_M} (hc : c < 256) : f_M_isName F (t_b c) K = some (if ixn c < 8 then 1 else 0, K) := by
  rcases nam_cases c with (rfl | rfl | rfl | rfl | rfl | rfl | rfl | rfl) | ⟨z, h1, h2, h3, h4, h5, h6, h7, h8⟩
  · rfl
  · rfl
  · rfl
  · rfl
  · rfl
  · rfl
  · rfl
  · rfl
  · unfold f_M_isName
    rw [if_neg (show ¬ t_b c = 112 from t_nq (m := 112) h1 hc (by decide)), if_neg (show ¬ t_b c = 109 from t_nq (m := 109) h2 hc (by decide)), if_neg (show ¬ t_b c = 114 from t_nq (m := 114) h3 hc (by decide)), if_neg (show ¬ t_b c = 110 from t_nq (m := 110) h4 hc (by decide)), if_neg (show ¬ t_b c = 103 from t_nq (m := 103) h5 hc (by decide)), if_neg (show ¬ t_b c = 115 from t_nq (m := 115) h6 hc (by decide)), if_neg (show ¬ t_b c = 99 from t_nq (m := 99) h7 hc (by decide)), if_neg (show ¬ t_b c = 116 from t_nq (m := 116) h8 hc (by decide)), z, if_neg (by decide)]
theorem tx_at {i : Nat} (h : i < 8) : ∃ m, m < 128 ∧ j_tx i = nI m ∧ nam m ∧ ixn m = i := by
  match i, h with
  | 0, _ => exact ⟨112, by decide, rfl, Or.inl rfl, rfl⟩
  | 1, _ => exact ⟨109, by decide, rfl, Or.inr (Or.inl rfl), rfl⟩
  | 2, _ => exact ⟨114, by decide, rfl, Or.inr (Or.inr (Or.inl rfl)), rfl⟩
  | 3, _ => exact ⟨110, by decide, rfl, Or.inr (Or.inr (Or.inr (Or.inl rfl))), rfl⟩
  | 4, _ => exact ⟨103, by decide, rfl, Or.inr (Or.inr (Or.inr (Or.inr (Or.inl rfl)))), rfl⟩
  | 5, _ => exact ⟨115, by decide, rfl, Or.inr (Or.inr (Or.inr (Or.inr (Or.inr (Or.inl rfl))))), rfl⟩
  | 6, _ => exact ⟨99, by decide, rfl, Or.inr (Or.inr (Or.inr (Or.inr (Or.inr (Or.inr (Or.inl rfl)))))), rfl⟩
  | 7, _ => exact ⟨116, by decide, rfl, Or.inr (Or.inr (Or.inr (Or.inr (Or.inr (Or.inr (Or.inr rfl)))))), rfl⟩
theorem tx_ix {c : Nat} (h : nam c) : j_tx (ixn c) = nI c := by
  rcases h with rfl | rfl | rfl | rfl | rfl | rfl | rfl | rfl <;> rfl
theorem nI_by2 {c : Nat} (hc : c < 256) : (nI c).toInt8.toInt32 = t_b c := by
  by_cases h : c < 128
  · rw [nI_by h, t_lo h]
  · apply Int32.toInt_inj.mp
    unfold t_b
    rw [if_neg h, show (256 : Int32) = nI 256 from rfl, pk_sub_toInt (by omega) (by omega), Int8.toInt_toInt32, Int32.toInt_toInt8, nI_toInt (by omega)]
    have e : ((c : Int)).bmod (2 ^ 8) = ((c : Int) - 256).bmod (2 ^ 8) := (Int.sub_bmod_right (c : Int) 256).symm
    rw [e, Int.bmod_eq_of_le (by omega) (by omega)]
    rfl
theorem e_index {F c : Nat} {J : j_M} (hF : 20000000 < F) (hc : c < 256) : f_St_indexOf1 F (((nI c).toUInt32 % 65536).toInt32) J = some (if ixn c < 8 then nI (ixn c) else -1, J) := by
  have e0 : ((nI c).toUInt32 % 65536).toInt32 = nI c := by rw [pk_char, pk_tn (by omega), Nat.mod_eq_of_lt (by omega)]
  rw [e0]
  have key : f_Sl_indexOfChar_7 F 8 (t_b c) 0 J = some (if ixn c < 8 then nI (ixn c) else -1, J) := by
    have hw : j_wpo (f_Sl_indexOfChar_7 F 8 (t_b c) 0 J) (fun v J' => v = (if ixn c < 8 then nI (ixn c) else -1) ∧ J' = J) := by
      unfold f_Sl_indexOfChar_7
      refine j_it_wp (Inv := fun k q => ∃ i, i + k = 8 ∧ q = (8, t_b c, nI i, J) ∧ ∀ j, j < i → ¬ j_tx j = t_b c) ?_ F 8 _ (by omega) ⟨0, by omega, rfl, fun j hj => absurd hj (Nat.not_lt_zero _)⟩
      intro k q again hq hag
      obtain ⟨i, hi, rfl, hno⟩ := hq
      dsimp only
      unfold f_Sl_indexOfChar_7b
      by_cases e : i = 8
      · subst e
        refine wpo_pos (show (8 : Int32) ≤ nI 8 by decide) (wpo_some ⟨?_, rfl⟩)
        rw [if_neg]
        intro z
        refine hno (ixn c) z ?_
        rcases nam_cases c with y | y
        · rw [tx_ix y, t_lo (nam_ix y).2.1]
        · omega
      · refine wpo_neg (show ¬ (8 : Int32) ≤ nI i from nI_ge (b := 8) (by omega) (by decide)) (wpo_pos (j_ok_nI (by omega) (by decide)) ?_)
        rw [j_ix_nI (by omega)]
        refine wpo_ite (fun z => wpo_some ⟨?_, rfl⟩) (fun z => ?_)
        · obtain ⟨m, m1, m2, m3, m4⟩ := tx_at (show i < 8 by omega)
          rw [m2] at z
          have : c = m := (t_eq hc m1).mp z.symm
          rw [this, m4, if_pos (by omega)]
        · simp only [j_letE, nI_1]
          exact hag _ (k - 1) (by omega) ⟨i + 1, by omega, rfl, fun j hj => by
            by_cases ej : j = i
            · subst ej; exact z
            · exact hno j (by omega)⟩
    obtain ⟨v, J', e, rfl, rfl⟩ := hw
    exact e
  have n1 : ¬ nI c < 0 := nI_pos (show c < 2 ^ 31 by omega)
  have n2 : ¬ (255 : Int32) < nI c := nI_nlt (a := 255) (by omega) (by decide)
  have e1 : (8 : Int32) >>> (0 &&& 31) = 8 := by decide
  simp only [f_St_indexOf1, f_St_indexOf2, f_St_isLatin1, f_St_length, f_St_coder, f_Sl_indexOf, f_Sl_canEncode, f_Sl_indexOfChar, j_bdS, j_letE, show ¬ (1 : Int32) = 0 by decide, show ¬ (0 : Int32) < 0 by decide, show ¬ (8 : Int32) < 8 by decide, show (0 : Int32) < 8 by decide, n1, n2, e1, if_true, if_false, nI_by2 hc, key]
/-- what a step does to a pile; what steps come to -/
def x_st (nm : Nat → Int32) (w : Nat) (x : Int32) : List Int32 → Option (List Int32)
  | [] => if w = 1 then some [x] else if 100 ≤ w ∧ ixn (w - 100) < 8 then some [nm (w - 100)] else none
  | [a] => if w = 1 then some [x, a] else if 100 ≤ w ∧ ixn (w - 100) < 8 then some [nm (w - 100), a] else none
  | b :: a :: S => if w = 1 then some (x :: b :: a :: S) else if 100 ≤ w ∧ ixn (w - 100) < 8 then some (nm (w - 100) :: b :: a :: S) else if w = 40 ∨ w = 41 ∨ w = 42 ∨ w = 50 ∨ w = 51 ∨ w = 60 ∨ w = 61 then some (b_both w a b :: S) else none
theorem x_num {nm : Nat → Int32} {x : Int32} (S : List Int32) : x_st nm 1 x S = some (x :: S) := by
  rcases S with _ | ⟨a, _ | ⟨b, S⟩⟩ <;> rfl
theorem x_nam {nm : Nat → Int32} {c : Nat} {x : Int32} (h : ixn c < 8) (S : List Int32) : x_st nm (100 + c) x S = some (nm c :: S) := by
  have h1 : ¬ 100 + c = 1 := by omega
  have h2 : 100 ≤ 100 + c ∧ ixn (100 + c - 100) < 8 := ⟨by omega, by rw [Nat.add_sub_cancel_left]; exact h⟩
  rcases S with _ | ⟨a, _ | ⟨b, S⟩⟩
  · show (if 100 + c = 1 then _ else _) = _
    rw [if_neg h1, if_pos h2, Nat.add_sub_cancel_left]
  · show (if 100 + c = 1 then _ else _) = _
    rw [if_neg h1, if_pos h2, Nat.add_sub_cancel_left]
  · show (if 100 + c = 1 then _ else _) = _
    rw [if_neg h1, if_pos h2, Nat.add_sub_cancel_left]
theorem x_op {nm : Nat → Int32} {w : Nat} {x a b : Int32} {S : List Int32} (h : iop w) : x_st nm w x (b :: a :: S) = some (b_both w a b :: S) := by
  have q := iop_tight h
  show (if w = 1 then _ else _) = _
  rw [if_neg (by omega), if_neg (by omega)]
  exact if_pos h
def x_run (nm : Nat → Int32) : List (Nat × Int32) → List Int32 → Option (List Int32)
  | [], S => some S
  | q :: r, S => (x_st nm q.1 q.2 S).bind (fun S' => x_run nm r S')
theorem run_app {nm : Nat → Int32} : ∀ (a b : List (Nat × Int32)) (S : List Int32), x_run nm (a ++ b) S = (x_run nm a S).bind (fun S' => x_run nm b S')
  | [], b, S => rfl
  | q :: r, b, S => by
    show (x_st nm q.1 q.2 S).bind (fun S' => x_run nm (r ++ b) S') = ((x_st nm q.1 q.2 S).bind (fun S' => x_run nm r S')).bind _
    cases h : x_st nm q.1 q.2 S with
    | none => rfl
    | some S' => exact run_app r b S'
def x_gv (nm : Nat → Int32) (o : List (Nat × Int32)) (v : Int32) : Prop := ∀ S, x_run nm o S = some (v :: S)
theorem gv_one {nm : Nat → Int32} {w : Nat} {x v : Int32} (h : ∀ S, x_st nm w x S = some (v :: S)) : x_gv nm [(w, x)] v := fun S => by
  show (x_st nm w x S).bind (fun S' => some S') = _
  rw [h S]; rfl
theorem gv_bin {nm : Nat → Int32} {o1 o2 : List (Nat × Int32)} {v1 v2 : Int32} {w : Nat} (h1 : x_gv nm o1 v1) (h2 : x_gv nm o2 v2) (hw : iop w) : x_gv nm (o1 ++ o2 ++ [(w, 0)]) (b_both w v1 v2) := fun S => by
  rw [run_app, run_app, h1 S]
  show ((x_run nm o2 (v1 :: S)).bind _) = _
  rw [h2]
  show (x_st nm w 0 (v2 :: v1 :: S)).bind (fun S' => some S') = _
  rw [x_op hw]; rfl
/-- what the reference says of steps -/
def y_says (nm : Nat → Int32) : List (Nat × Int32) → Int32 → List Int32 → Option Int32
  | [], _, _ => some 0
  | q :: r, sk, S => if q.1 = 3 then (if sk = 0 then S.getLast? else y_says nm r 0 []) else if q.1 = 2 then S.getLast?.bind (fun x => y_says nm r (if x = 0 then 1 else 0) []) else (x_st nm q.1 q.2 S).bind (fun S' => y_says nm r sk S')
theorem x_st_ne {nm : Nat → Int32} {w : Nat} {x : Int32} {S S' : List Int32} (h : x_st nm w x S = some S') : w ≠ 3 ∧ w ≠ 2 := by
  constructor
  · intro z
    subst z
    rcases S with _ | ⟨a, _ | ⟨b, S⟩⟩ <;> cases h
  · intro z
    subst z
    rcases S with _ | ⟨a, _ | ⟨b, S⟩⟩ <;> cases h
theorem y_app {nm : Nat → Int32} {sk : Int32} {rest : List (Nat × Int32)} : ∀ {o : List (Nat × Int32)} {S S' : List Int32}, x_run nm o S = some S' → y_says nm (o ++ rest) sk S = y_says nm rest sk S'
  | [], S, S', h => by cases h; rfl
  | q :: r, S, S', h => by
    have h2 : (x_st nm q.1 q.2 S).bind (fun S' => x_run nm r S') = some S' := h
    show (if q.1 = 3 then _ else _) = _
    cases e : x_st nm q.1 q.2 S with
    | none => rw [e] at h2; cases h2
    | some S2 =>
      rw [e] at h2
      obtain ⟨n1, n2⟩ := x_st_ne e
      rw [if_neg n1, if_neg n2]
      exact y_app (o := r) h2
