/-! THE REFERENCE'S HOUR -/
def fo {S : Type} (f : S → Nat → S) (s : S) : Nat → S
  | 0 => s
  | n + 1 => f (fo f s n) n
/-- the messages of a row 'now' are sound -/
def ml_w (a : Nat → Nat) : Prop := ∀ m, m < a 2 → a (60 + 19 * m + 0) < a 1 ∧ a (60 + 19 * m + 1) < a 1 ∧ a (60 + 19 * m + 2) < a 1 ∧ 1 ≤ a (60 + 19 * m + 3) ∧ a (60 + 19 * m + 3) ≤ 8 ∧ a (60 + 19 * m + 4) < a (60 + 19 * m + 3) ∧ a (60 + 19 * m + 5) ≤ 3 ∧ a (60 + 19 * m + 6) ≤ 2 ∧ a (60 + 19 * m + 9) ≤ 1 ∧ a (60 + 19 * m + 10) ≤ 2 ∧ (∀ k, k < 8 → a (60 + 19 * m + (11 + k)) ≤ 8) ∧ (a (60 + 19 * m + 6) = 0 → a (60 + 19 * m + 2) ≠ a (60 + 19 * m + 1)) ∧ (a (60 + 19 * m + 10) ≠ 0 → a (60 + 19 * m + 6) = 0)
theorem ml_b.nu {B i v : Nat} {a : Nat → Nat} (h : ml_b B a) (hv : v ≤ B) (c1 : i = 1 → v ≤ 6) (c2 : i = 2 → v ≤ 16) (c3 : ∀ m f, m < 16 → f < 19 → f ≠ 7 → f ≠ 8 → i = 60 + 19 * m + f → v < 100) (c4 : ∀ c f, c < 6 → f < 4 → i = 12 + 6 * c + f → v < 100) (c5 : 4 ≤ i → i < 12 → v < 1000) (c6 : 48 ≤ i → i < 60 → v < 100) : ml_b B (nu a i v) := by
  obtain ⟨b1, b2, b3, b4, b5, b6, b7⟩ := h
  refine ⟨?_, ?_, fun j hj => ?_, fun m f hm hf h7 h8 => ?_, fun c f hc hf => ?_, fun j h4 h12 => ?_, fun j h48 h60 => ?_⟩ <;> unfold _root_.Jvm.Pilot.CBellTelegraphLaw_law_r1723_349f97.nu
  · split
    · exact c1 (by omega)
    · exact b1
  · split
    · exact c2 (by omega)
    · exact b2
  · split
    · exact hv
    · exact b3 j hj
  · split
    · exact c3 m f hm hf h7 h8 (by omega)
    · exact b4 m f hm hf h7 h8
  · split
    · exact c4 c f hc hf (by omega)
    · exact b5 c f hc hf
  · split
    · exact c5 (by omega) (by omega)
    · exact b6 j h4 h12
  · split
    · exact c6 (by omega) (by omega)
    · exact b7 j h48 h60
theorem ml_b.mono {B B' : Nat} {a : Nat → Nat} (h : ml_b B a) (hB : B ≤ B') : ml_b B' a := ⟨h.1, h.2.1, fun j hj => Nat.le_trans (h.2.2.1 j hj) hB, h.2.2.2⟩
/-- a sign of m that is due -/
def ml_due (a : Nat → Nat) (m : Nat) : Nat := a (60 + 19 * m + (11 + a (60 + 19 * m + 4)))
def ml_hrs (a : Nat → Nat) (s : Nat) : Nat := if s = 0 then 1 else a (4 + s - 1) % 4 + 1
/-- rung for an hour -/
def ml_r1 (a : Nat → Nat) (m : Nat) (fst : Bool) : Nat → Nat :=
  nu (if fst = true ∧ ml_heard a (a (60 + 19 * m + 2)) (ml_next a m) = true then nu a (12 + 6 * a (60 + 19 * m + 2) + 4) (a (12 + 6 * a (60 + 19 * m + 2) + 4) + 1) else nu (nu a (12 + 6 * a (60 + 19 * m + 2) + 4) (a (12 + 6 * a (60 + 19 * m + 2) + 4) + 1)) (60 + 19 * m + 9) 0) (60 + 19 * m + 5) (a (60 + 19 * m + 5) + 1)
/-- written or lost -/
def ml_r2 (a b : Nat → Nat) (m : Nat) : Nat → Nat :=
  if 0 < ml_due a m ∧ b (60 + 19 * m + 9) = 0 then nu (nu b (60 + 19 * m + (11 + a (60 + 19 * m + 4))) 0) (12 + 6 * ml_next a m + 5) (a (12 + 6 * ml_next a m + 5) + 1) else b
/-- the next sign is due -/
def ml_r3 (a b : Nat → Nat) (m : Nat) : Nat → Nat :=
  nu (nu (nu b (60 + 19 * m + 4) (a (60 + 19 * m + 4) + 1)) (60 + 19 * m + 5) 0) (60 + 19 * m + 9) 1
def ml_r4 (a b : Nat → Nat) (m : Nat) : Nat → Nat :=
  if a (60 + 19 * m + 4) + 1 < a (60 + 19 * m + 3) then b else nu (nu b (60 + 19 * m + 4) 0) (60 + 19 * m + 10) 1
def ml_rings (a : Nat → Nat) (m : Nat) (fst : Bool) : Nat → Nat :=
  if a (60 + 19 * m + 5) + 1 < ml_hrs a (ml_due a m) then ml_r1 a m fst else ml_r4 a (ml_r3 a (ml_r2 a (ml_r1 a m fst) m) m) m
section Kgo
variable {d B : Nat} {M : am_M} {a : Nat → Nat} {w : am_W4}
theorem ml_next_lt {m n : Nat} (h1 : a (60 + 19 * m + 1) < n) (h2 : a (60 + 19 * m + 2) < n) : ml_next a m < n := by
  unfold ml_next
  split <;> omega
set_option maxHeartbeats 4000000 in
theorem k151 {m : Nat} {fst : Bool} (hB : B < 1073741824) (hb : ml_b B a) (hw : ml_w a) (hm : m < a 2) (h0 : a (60 + 19 * m + 6) = 0) : am_ev (d + 4) 151 [am_P (30, 0, 0), am_I (nI m), am_I (nI fst.toNat)] (am_pA M a) (am_Z w) = some (.inl none, am_pA M (ml_rings a m fst), am_Z w) := by
  have hw' := hw
  obtain ⟨b1, b2, b3, b4, b5, b6, b7⟩ := hb
  obtain ⟨w0, w1, w2, w3, w4, w5, w6, w7, w8, w9, w10, w11, w12⟩ := hw m hm
  have hm16 : m < 16 := by omega
  have hnx : ml_next a m < 6 := Nat.lt_of_lt_of_le (ml_next_lt w1 w2) b1
  have hat : a (60 + 19 * m + 2) < 6 := by omega
  have hc4 := b3 (12 + 6 * a (60 + 19 * m + 2) + 4) (by omega)
  have hc5 := b3 (12 + 6 * ml_next a m + 5) (by omega)
  have hdue := w10 (a (60 + 19 * m + 4)) (by omega)
  have hps : ml_due a m ≠ 0 → a (4 + ml_due a m - 1) < 1000 := fun h => b6 _ (by omega) (by have : ml_due a m ≤ 8 := hdue; omega)
  have hdl : ml_due a m ≤ 8 := hdue
  have hne : a (60 + 19 * m + 1) ≠ a (60 + 19 * m + 2) := fun e => w11 h0 e.symm
  -- the parts
  rw [e151, k150 hm16 (by omega) (by omega) hne]
  simp (disch := omega) only [am_cb_i, am_cb_e, Option.toList_some, Option.toList_none, List.cons_append, List.nil_append, b151_5, k129 hm16 (show 4 < 19 by decide), b151_16, nI_add]
  rw [k129 hm16 (by omega)]
  simp (disch := omega) only [am_cb_i, am_cb_e, Option.toList_some, Option.toList_none, List.cons_append, List.nil_append, b151_20, k129 hm16 (show 2 < 19 by decide), b151_36, nI_add, pk_mul, am_inT, nI_clamp, if_true, if_false, ite_true, ite_false, am_pA_now, am_pA_set]
  rw [show a (60 + 19 * m + (11 + a (60 + 19 * m + 4))) = ml_due a m from rfl]
  generalize hA1 : nu a (12 + 6 * a (60 + 19 * m + 2) + 4) (a (12 + 6 * a (60 + 19 * m + 2) + 4) + 1) = A1
  have g1 : ∀ j, j < 12 ∨ 48 ≤ j → A1 j = a j := fun j hj => by rw [← hA1]; exact nu_ne (by omega)
  have g1c : ∀ c f, c < 6 → f < 4 → A1 (12 + 6 * c + f) = a (12 + 6 * c + f) := fun c f hc hf => by rw [← hA1]; exact nu_ne (by omega)
  have g15 : A1 (12 + 6 * ml_next a m + 5) = a (12 + 6 * ml_next a m + 5) := by rw [← hA1]; exact nu_ne (by omega)
  have e63 : ∀ (A : Nat → Nat), am_rn (am_ev (d + 3)) 151 63 [some (am_P (30, 0, 0)), some (am_I (nI m)), some (am_I (nI fst.toNat)), some (am_I (nI (ml_next a m))), some (am_I (nI (ml_due a m))), none] [] (am_pA M A) (am_Z w) = am_rn (am_ev (d + 3)) 151 71 [some (am_P (30, 0, 0)), some (am_I (nI m)), some (am_I (nI fst.toNat)), some (am_I (nI (ml_next a m))), some (am_I (nI (ml_due a m))), none] [] (am_pA M (nu A (60 + 19 * m + 9) 0)) (am_Z w) := by
    intro A
    rw [b151_63, k130 hm16 (by decide)]
    simp (disch := omega) only [am_cb_i, am_cb_e, Option.toList_some, Option.toList_none, List.cons_append, List.nil_append]
  have e85 : ∀ (A : Nat → Nat), A (60 + 19 * m + 5) = a (60 + 19 * m + 5) → am_rn (am_ev (d + 3)) 151 71 [some (am_P (30, 0, 0)), some (am_I (nI m)), some (am_I (nI fst.toNat)), some (am_I (nI (ml_next a m))), some (am_I (nI (ml_due a m))), none] [] (am_pA M A) (am_Z w) = am_rn (am_ev (d + 3)) 151 85 [some (am_P (30, 0, 0)), some (am_I (nI m)), some (am_I (nI fst.toNat)), some (am_I (nI (ml_next a m))), some (am_I (nI (ml_due a m))), none] [] (am_pA M (nu A (60 + 19 * m + 5) (a (60 + 19 * m + 5) + 1))) (am_Z w) := by
    intro A hA
    rw [b151_71, k129 hm16 (by decide)]
    simp (disch := omega) only [am_cb_i, am_cb_e, Option.toList_some, Option.toList_none, List.cons_append, List.nil_append, b151_80, nI_add, k130 hm16 (show 5 < 19 by decide), hA]
  -- up to 85 with ml_r1
  have s1 : (if nI fst.toNat = 0 then am_rn (am_ev (d + 3)) 151 63 [some (am_P (30, 0, 0)), some (am_I (nI m)), some (am_I (nI fst.toNat)), some (am_I (nI (ml_next a m))), some (am_I (nI (ml_due a m))), none] [] (am_pA M A1) (am_Z w)
      else am_rn (am_ev (d + 3)) 151 56 [some (am_P (30, 0, 0)), some (am_I (nI m)), some (am_I (nI fst.toNat)), some (am_I (nI (ml_next a m))), some (am_I (nI (ml_due a m))), none] [am_I (nI (A1 (60 + 19 * m + 2))), am_P (30, 0, 0)] (am_pA M A1) (am_Z w))
      = am_rn (am_ev (d + 3)) 151 85 [some (am_P (30, 0, 0)), some (am_I (nI m)), some (am_I (nI fst.toNat)), some (am_I (nI (ml_next a m))), some (am_I (nI (ml_due a m))), none] [] (am_pA M (ml_r1 a m fst)) (am_Z w) := by
    have hh : ml_heard A1 (a (60 + 19 * m + 2)) (ml_next a m) = ml_heard a (a (60 + 19 * m + 2)) (ml_next a m) := by
      unfold ml_heard ml_str
      rw [g1c _ 0 hat (by decide), g1c _ 1 hnx (by decide), g1 (48 + 2 * (if ml_next a m < a (60 + 19 * m + 2) then ml_next a m else a (60 + 19 * m + 2))) (by omega), g1 (48 + 2 * (if ml_next a m < a (60 + 19 * m + 2) then ml_next a m else a (60 + 19 * m + 2)) + 1) (by omega)]
    unfold ml_r1
    rw [hA1]
    cases fst with
    | false =>
      rw [if_pos (show nI false.toNat = 0 from rfl), e63, e85 _ (by rw [nu_ne (by omega), g1 _ (by omega)]), if_neg (by simp)]
    | true =>
      rw [if_neg (show ¬ nI true.toNat = 0 by decide), b151_56]
      rw [g1 (60 + 19 * m + 2) (by omega), k148 hat hnx (by rw [g1c _ 1 hnx (by decide)]; have := b5 (ml_next a m) 1 hnx (by decide); omega), hh]
      simp (disch := omega) only [am_cb_i, am_cb_e, Option.toList_some, Option.toList_none, List.cons_append, List.nil_append, b151_60, nI_bz]
      cases ml_heard a (a (60 + 19 * m + 2)) (ml_next a m) with
      | false =>
        rw [if_pos rfl, e63, e85 _ (by rw [nu_ne (by omega), g1 _ (by omega)]), if_neg (by simp)]
      | true =>
        rw [if_neg (by decide), e85 _ (g1 _ (by omega)), if_pos (by simp)]
  rw [s1]
  generalize hA3 : ml_r1 a m fst = A3
  have g3 : ∀ j, j < 12 ∨ (48 ≤ j ∧ j ≠ 60 + 19 * m + 9 ∧ j ≠ 60 + 19 * m + 5) → A3 j = a j := fun j hj => by
    rw [← hA3]
    unfold ml_r1
    rw [hA1, nu_ne (by omega)]
    split
    · exact g1 j (by omega)
    · rw [nu_ne (by omega)]; exact g1 j (by omega)
  have g35 : A3 (60 + 19 * m + 5) = a (60 + 19 * m + 5) + 1 := by
    rw [← hA3]
    exact nu_eq _ _ _
  have g3n : A3 (12 + 6 * ml_next a m + 5) = a (12 + 6 * ml_next a m + 5) := by
    rw [← hA3]
    unfold ml_r1
    rw [hA1, nu_ne (by omega)]
    split
    · exact g15
    · rw [nu_ne (by omega)]; exact g15
  have g39 : A3 (60 + 19 * m + 9) ≤ 1 := by
    rw [← hA3]
    unfold ml_r1
    rw [hA1, nu_ne (by omega)]
    split
    · rw [g1 _ (by omega)]; exact w8
    · rw [nu_eq]; omega
  -- the hours
  have s2 : am_rn (am_ev (d + 3)) 151 85 [some (am_P (30, 0, 0)), some (am_I (nI m)), some (am_I (nI fst.toNat)), some (am_I (nI (ml_next a m))), some (am_I (nI (ml_due a m))), none] [] (am_pA M A3) (am_Z w) = am_rn (am_ev (d + 3)) 151 109 [some (am_P (30, 0, 0)), some (am_I (nI m)), some (am_I (nI fst.toNat)), some (am_I (nI (ml_next a m))), some (am_I (nI (ml_due a m))), none] [am_I (nI (ml_hrs a (ml_due a m)))] (am_pA M A3) (am_Z w) := by
    rw [b151_85]
    unfold ml_hrs
    by_cases hs : ml_due a m = 0
    · rw [if_pos (by rw [hs]; rfl), if_pos hs]
    · have hp := hps hs
      rw [if_neg (by rw [nI_z (by omega)]; exact hs), if_neg hs, nI_add, pk_sub (by omega)]
      simp (disch := omega) only [nI_add, pk_mul, am_inT, nI_clamp, if_true, if_false, ite_true, ite_false, am_pA_now, am_pA_set]
      rw [g3 (4 + ml_due a m - 1) (by omega)]
      simp (disch := omega) only [pk_rem, nI_add]
  rw [s2, b151_109, k129 hm16 (by decide)]
  have hhr : ml_hrs a (ml_due a m) < 100 := by unfold ml_hrs; split <;> omega
  simp (disch := omega) only [am_cb_i, am_cb_e, Option.toList_some, Option.toList_none, List.cons_append, List.nil_append, b151_117, g35, nI_ltJ]
  unfold ml_rings
  by_cases hlt : a (60 + 19 * m + 5) + 1 < ml_hrs a (ml_due a m)
  · rw [if_pos hlt, if_pos hlt, hA3]
  · rw [if_neg hlt, if_neg hlt, hA3]
    have hx5 : ∀ (A : Nat → Nat), A (60 + 19 * m + 4) = a (60 + 19 * m + 4) → A (60 + 19 * m + 3) = a (60 + 19 * m + 3) → am_rn (am_ev (d + 3)) 151 171 [some (am_P (30, 0, 0)), some (am_I (nI m)), some (am_I (nI fst.toNat)), some (am_I (nI (ml_next a m))), some (am_I (nI (ml_due a m))), some (am_I (nI (ml_hrs a (ml_due a m))))] [] (am_pA M A) (am_Z w) = some (.inl none, am_pA M (ml_r4 a (ml_r3 a A m) m), am_Z w) := by
      intro A h4 h3
      rw [b151_171, k129 hm16 (by decide)]
      simp (disch := omega) only [am_cb_i, am_cb_e, Option.toList_some, Option.toList_none, List.cons_append, List.nil_append, b151_180, nI_add, k130 hm16 (show 4 < 19 by decide), b151_185, k130 hm16 (show 5 < 19 by decide), b151_192, k130 hm16 (show 9 < 19 by decide), b151_200, k129 hm16 (show 4 < 19 by decide), b151_206, k129 hm16 (show 3 < 19 by decide), b151_212, h4]
      rw [show nu (nu (nu A (60 + 19 * m + 4) (a (60 + 19 * m + 4) + 1)) (60 + 19 * m + 5) 0) (60 + 19 * m + 9) 1 = ml_r3 a A m from rfl]
      have f4 : ml_r3 a A m (60 + 19 * m + 4) = a (60 + 19 * m + 4) + 1 := by unfold ml_r3; rw [nu_ne (by omega), nu_ne (by omega), nu_eq]
      have f3 : ml_r3 a A m (60 + 19 * m + 3) = a (60 + 19 * m + 3) := by unfold ml_r3; rw [nu_ne (by omega), nu_ne (by omega), nu_ne (by omega), h3]
      rw [f4, f3]
      simp (disch := omega) only [nI_ltJ]
      unfold ml_r4
      by_cases h5 : a (60 + 19 * m + 4) + 1 < a (60 + 19 * m + 3)
      · rw [if_pos h5, if_pos h5]
      · rw [if_neg h5, if_neg h5]
        simp (disch := omega) only [am_cb_i, am_cb_e, Option.toList_some, Option.toList_none, List.cons_append, List.nil_append, k130 hm16 (show 4 < 19 by decide), b151_223, k130 hm16 (show 10 < 19 by decide), b151_231]
    have hx : am_rn (am_ev (d + 3)) 151 171 [some (am_P (30, 0, 0)), some (am_I (nI m)), some (am_I (nI fst.toNat)), some (am_I (nI (ml_next a m))), some (am_I (nI (ml_due a m))), some (am_I (nI (ml_hrs a (ml_due a m))))] [] (am_pA M A3) (am_Z w) = some (.inl none, am_pA M (ml_r4 a (ml_r3 a A3 m) m), am_Z w) := hx5 A3 (g3 _ (by omega)) (g3 _ (by omega))
    by_cases hs : 0 < ml_due a m
    · rw [if_pos (by rw [show (0 : Int32) = nI 0 from rfl]; exact nI_lt hs (by omega)), k129 hm16 (by decide)]
      simp (disch := omega) only [am_cb_i, am_cb_e, Option.toList_some, Option.toList_none, List.cons_append, List.nil_append, b151_135, nI_z]
      by_cases h9 : A3 (60 + 19 * m + 9) = 0
      · rw [if_pos h9, k129 hm16 (by decide)]
        simp (disch := omega) only [am_cb_i, am_cb_e, Option.toList_some, Option.toList_none, List.cons_append, List.nil_append, b151_148, nI_add]
        rw [k130 hm16 (by rw [g3 _ (by omega)]; omega), g3 (60 + 19 * m + 4) (by omega)]
        simp (disch := omega) only [am_cb_i, am_cb_e, Option.toList_some, Option.toList_none, List.cons_append, List.nil_append, b151_153, nI_add, pk_mul, am_inT, nI_clamp, if_true, if_false, ite_true, ite_false, am_pA_now, am_pA_set]
        rw [nu_ne (by omega), g3n, hx5 _ (by rw [nu_ne (by omega), nu_ne (by omega)]; exact g3 _ (by omega)) (by rw [nu_ne (by omega), nu_ne (by omega)]; exact g3 _ (by omega))]
        unfold ml_r2
        rw [if_pos ⟨hs, h9⟩]
      · rw [if_neg h9, hx]
        unfold ml_r2
        rw [if_neg (fun q => h9 q.2)]
    · rw [if_neg (by rw [show (0 : Int32) = nI 0 from rfl]; exact nI_nlt (by omega) (by omega)), hx]
      unfold ml_r2
      rw [if_neg (fun q => hs q.1)]
end Kgo
