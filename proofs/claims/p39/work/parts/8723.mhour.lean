/-! THE REFERENCE'S HOUR: its loops -/
theorem nf_some {P : Nat → Bool} {m : Nat} : ∀ {r k : Nat}, nf P r k = some m → k ≤ m ∧ m < k + r ∧ P m = true
  | 0, _, h => by cases h
  | r + 1, k, h => by
    unfold nf at h
    split at h
    · cases h
      rename_i hp
      exact ⟨Nat.le_refl _, by omega, hp⟩
    · obtain ⟨h1, h2, h3⟩ := nf_some h
      exact ⟨by omega, by omega, h3⟩
theorem ml_wt_some {a : Nat → Nat} {c m : Nat} {x : Int32} (h : ml_wt a c x = some m) : m < a 2 ∧ a (60 + 19 * m + 6) = 0 ∧ a (60 + 19 * m + 2) = c := by
  obtain ⟨-, h1, h2⟩ := nf_some h
  unfold ml_wtP ml_waits at h2
  simp only [Bool.and_eq_true, decide_eq_true_eq] at h2
  exact ⟨by omega, h2.1⟩
def ml_sz (a : Nat → Nat) (m j : Nat) : Prop := j ≠ 12 + 6 * a (60 + 19 * m + 2) + 4 ∧ j ≠ 12 + 6 * ml_next a m + 5 ∧ j ≠ 60 + 19 * m + 4 ∧ j ≠ 60 + 19 * m + 5 ∧ j ≠ 60 + 19 * m + 9 ∧ j ≠ 60 + 19 * m + 10 ∧ j ≠ 60 + 19 * m + (11 + a (60 + 19 * m + 4))
theorem ml_r1_ne {a : Nat → Nat} {m j : Nat} {fst : Bool} (h1 : j ≠ 12 + 6 * a (60 + 19 * m + 2) + 4) (h2 : j ≠ 60 + 19 * m + 5) (h3 : j ≠ 60 + 19 * m + 9) : ml_r1 a m fst j = a j := by
  unfold ml_r1
  rw [nu_ne h2]
  split
  · rw [nu_ne h1]
  · rw [nu_ne h3, nu_ne h1]
theorem ml_r2_ne {a b : Nat → Nat} {m j : Nat} (h1 : j ≠ 12 + 6 * ml_next a m + 5) (h2 : j ≠ 60 + 19 * m + (11 + a (60 + 19 * m + 4))) : ml_r2 a b m j = b j := by
  unfold ml_r2
  split
  · rw [nu_ne h1, nu_ne h2]
  · rfl
theorem ml_r3_ne {a b : Nat → Nat} {m j : Nat} (h1 : j ≠ 60 + 19 * m + 4) (h2 : j ≠ 60 + 19 * m + 5) (h3 : j ≠ 60 + 19 * m + 9) : ml_r3 a b m j = b j := by
  unfold ml_r3
  rw [nu_ne h3, nu_ne h2, nu_ne h1]
theorem ml_r4_ne {a b : Nat → Nat} {m j : Nat} (h1 : j ≠ 60 + 19 * m + 4) (h2 : j ≠ 60 + 19 * m + 10) : ml_r4 a b m j = b j := by
  unfold ml_r4
  split
  · rfl
  · rw [nu_ne h2, nu_ne h1]
theorem ml_rings_ne {a : Nat → Nat} {m j : Nat} {fst : Bool} (h : ml_sz a m j) : ml_rings a m fst j = a j := by
  obtain ⟨h1, h2, h3, h4, h5, h6, h7⟩ := h
  unfold ml_rings
  split
  · exact ml_r1_ne h1 h4 h5
  · rw [ml_r4_ne h3 h6, ml_r3_ne h3 h4 h5, ml_r2_ne h2 h7, ml_r1_ne h1 h4 h5]
theorem ml_rings_b {B : Nat} {a : Nat → Nat} {m : Nat} {fst : Bool} (hB : 1000 ≤ B) (hb : ml_b B a) (hw : ml_w a) (hm : m < a 2) : ml_b (B + 1) (ml_rings a m fst) := by
  obtain ⟨w0, w1, w2, w3, w4, w5, w6, w7, w8, w9, w10, w11, w12⟩ := hw m hm
  have b1 := hb.1
  have b2 := hb.2.1
  have b3 := hb.2.2.1
  have hnx : ml_next a m < 6 := Nat.lt_of_lt_of_le (ml_next_lt w1 w2) b1
  have hc4 := b3 (12 + 6 * a (60 + 19 * m + 2) + 4) (by omega)
  have hc5 := b3 (12 + 6 * ml_next a m + 5) (by omega)
  have hb' := hb.mono (Nat.le_succ B)
  have h1 : ml_b (B + 1) (ml_r1 a m fst) := by
    unfold ml_r1
    refine ml_b.nu ?_ (by omega) (by omega) (by omega) (by intros; omega) (by intros; omega) (by omega) (by omega)
    split
    · exact ml_b.nu hb' (by omega) (by omega) (by omega) (by intros; omega) (by intros; omega) (by omega) (by omega)
    · exact ml_b.nu (ml_b.nu hb' (by omega) (by omega) (by omega) (by intros; omega) (by intros; omega) (by omega) (by omega)) (by omega) (by omega) (by omega) (by intros; omega) (by intros; omega) (by omega) (by omega)
  unfold ml_rings
  split
  · exact h1
  · have h2 : ml_b (B + 1) (ml_r2 a (ml_r1 a m fst) m) := by
      unfold ml_r2
      split
      · exact ml_b.nu (ml_b.nu h1 (by omega) (by omega) (by omega) (by intros; omega) (by intros; omega) (by omega) (by omega)) (by omega) (by omega) (by omega) (by intros; omega) (by intros; omega) (by omega) (by omega)
      · exact h1
    have h3 : ml_b (B + 1) (ml_r3 a (ml_r2 a (ml_r1 a m fst) m) m) := by
      unfold ml_r3
      exact ml_b.nu (ml_b.nu (ml_b.nu h2 (by omega) (by omega) (by omega) (by intros; omega) (by intros; omega) (by omega) (by omega)) (by omega) (by omega) (by omega) (by intros; omega) (by intros; omega) (by omega) (by omega)) (by omega) (by omega) (by omega) (by intros; omega) (by intros; omega) (by omega) (by omega)
    unfold ml_r4
    split
    · exact h3
    · exact ml_b.nu (ml_b.nu h3 (by omega) (by omega) (by omega) (by intros; omega) (by intros; omega) (by omega) (by omega)) (by omega) (by omega) (by omega) (by intros; omega) (by intros; omega) (by omega) (by omega)
theorem ml_hrs_le {a : Nat → Nat} {s : Nat} : ml_hrs a s ≤ 4 := by
  unfold ml_hrs
  split <;> omega
theorem ml_rings_w {B : Nat} {a : Nat → Nat} {m : Nat} {fst : Bool} (hb : ml_b B a) (hw : ml_w a) (hm : m < a 2) (h0 : a (60 + 19 * m + 6) = 0) : ml_w (ml_rings a m fst) := by
  obtain ⟨w0, w1, w2, w3, w4, w5, w6, w7, w8, w9, w10, w11, w12⟩ := hw m hm
  have b1 := hb.1
  have b2 := hb.2.1
  have hnx : ml_next a m < 6 := Nat.lt_of_lt_of_le (ml_next_lt w1 w2) b1
  have e1 : ml_rings a m fst 1 = a 1 := ml_rings_ne (by unfold ml_sz; omega)
  have e2 : ml_rings a m fst 2 = a 2 := ml_rings_ne (by unfold ml_sz; omega)
  intro q hq
  rw [e2] at hq
  rw [e1]
  by_cases hqm : q = m
  · subst hqm
    have f : ∀ f, f = 0 ∨ f = 1 ∨ f = 2 ∨ f = 3 ∨ f = 6 ∨ f = 7 ∨ f = 8 → ml_rings a q fst (60 + 19 * q + f) = a (60 + 19 * q + f) := fun f hf => ml_rings_ne (by unfold ml_sz; omega)
    rw [f 0 (by omega), f 1 (by omega), f 2 (by omega), f 3 (by omega), f 6 (by omega)]
    have hh := ml_hrs_le (a := a) (s := ml_due a q)
    have r9 : ml_r1 a q fst (60 + 19 * q + 9) ≤ 1 := by
      unfold ml_r1
      rw [nu_ne (by omega)]
      split
      · rw [nu_ne (by omega)]; exact w8
      · rw [nu_eq]; omega
    refine ⟨w0, w1, w2, w3, w4, ?_, ?_, w7, ?_, ?_, fun k hk => ?_, w11, fun _ => h0⟩
    · unfold ml_rings
      split
      · rw [ml_r1_ne (by omega) (by omega) (by omega)]; exact w5
      · unfold ml_r4
        split
        · unfold ml_r3
          rw [nu_ne (by omega), nu_ne (by omega), nu_eq]; omega
        · rw [nu_ne (by omega), nu_eq]; omega
    · unfold ml_rings
      split
      · unfold ml_r1
        rw [nu_eq]; omega
      · rw [ml_r4_ne (by omega) (by omega)]
        unfold ml_r3
        rw [nu_ne (by omega), nu_eq]; omega
    · unfold ml_rings
      split
      · exact r9
      · rw [ml_r4_ne (by omega) (by omega)]
        unfold ml_r3
        rw [nu_eq]; omega
    · unfold ml_rings
      split
      · rw [ml_r1_ne (by omega) (by omega) (by omega)]; exact w9
      · unfold ml_r4
        split
        · rw [ml_r3_ne (by omega) (by omega) (by omega), ml_r2_ne (by omega) (by omega), ml_r1_ne (by omega) (by omega) (by omega)]; exact w9
        · rw [nu_eq]; omega
    · unfold ml_rings
      split
      · rw [ml_r1_ne (by omega) (by omega) (by omega)]; exact w10 k hk
      · rw [ml_r4_ne (by omega) (by omega), ml_r3_ne (by omega) (by omega) (by omega)]
        unfold ml_r2
        split
        · rw [nu_ne (by omega)]
          by_cases hk2 : k = a (60 + 19 * q + 4)
          · rw [hk2, nu_eq]; omega
          · rw [nu_ne (by omega), ml_r1_ne (by omega) (by omega) (by omega)]; exact w10 k hk
        · rw [ml_r1_ne (by omega) (by omega) (by omega)]; exact w10 k hk
  · have f : ∀ f, f < 19 → ml_rings a m fst (60 + 19 * q + f) = a (60 + 19 * q + f) := fun f hf => ml_rings_ne (by unfold ml_sz; omega)
    rw [f 0 (by omega), f 1 (by omega), f 2 (by omega), f 3 (by omega), f 4 (by omega), f 5 (by omega), f 6 (by omega), f 9 (by omega), f 10 (by omega)]
    obtain ⟨v0, v1, v2, v3, v4, v5, v6, v7, v8, v9, v10, v11, v12⟩ := hw q hq
    exact ⟨v0, v1, v2, v3, v4, v5, v6, v7, v8, v9, fun k hk => by rw [f (11 + k) (by omega)]; exact v10 k hk, v11, v12⟩
theorem bt_shl : ∀ l, l < 6 → nI 1 <<< (nI l &&& 31) = nI (2 ^ l) := by decide +kernel
theorem bt_and : ∀ k, k < 64 → ∀ l, l < 6 → decide (nI k &&& nI (2 ^ l) = 0) = decide (k / 2 ^ l % 2 = 0) := by decide +kernel
theorem bt_or : ∀ k, k < 64 → ∀ l, l < 6 → nI k ||| nI (2 ^ l) = nI (k ||| 2 ^ l) ∧ k ||| 2 ^ l < 64 := by decide +kernel
theorem bt_shr : ∀ k, k < 64 → ∀ l, l < 6 → decide ((nI k >>> (nI l &&& 31)) &&& nI 1 = 0) = decide (k / 2 ^ l % 2 = 0) := by decide +kernel
/-- one convent's turn -/
def ml_s1 (s : (Nat → Nat) × Nat) (c : Nat) : (Nat → Nat) × Nat :=
  if ml_silent s.1 c = true then s else match ml_wt s.1 c (nI 0) with
    | none => s
    | some m => (ml_rings s.1 m (decide (s.2 / 2 ^ ml_next s.1 m % 2 = 0)), s.2 ||| 2 ^ ml_next s.1 m)
def ml_ok (B : Nat) (a : Nat → Nat) : Prop := ml_b B a ∧ ml_w a
theorem ml_s1_ok {B c : Nat} {s : (Nat → Nat) × Nat} (hB : 1000 ≤ B) (h : ml_ok B s.1) (hk : s.2 < 64) : ml_ok (B + 1) (ml_s1 s c).1 ∧ (ml_s1 s c).2 < 64 ∧ (ml_s1 s c).1 1 = s.1 1 ∧ (ml_s1 s c).1 2 = s.1 2 := by
  unfold ml_s1
  split
  · exact ⟨⟨h.1.mono (Nat.le_succ B), h.2⟩, hk, rfl, rfl⟩
  · split
    · exact ⟨⟨h.1.mono (Nat.le_succ B), h.2⟩, hk, rfl, rfl⟩
    · rename_i m hm
      obtain ⟨h1, h2, h3⟩ := ml_wt_some hm
      obtain ⟨w0, w1, w2, -⟩ := h.2 m h1
      have hnx := Nat.lt_of_lt_of_le (ml_next_lt w1 w2) h.1.1
      have hb2 := h.1.2.1
      exact ⟨⟨ml_rings_b hB h.1 h.2 h1, ml_rings_w h.1 h.2 h1 h2⟩, (bt_or _ hk _ hnx).2, ml_rings_ne (by unfold ml_sz; omega), ml_rings_ne (by unfold ml_sz; omega)⟩
theorem ml_f1_ok {B : Nat} {a : Nat → Nat} (hB : 1000 ≤ B) (h : ml_ok B a) : ∀ n, ml_ok (B + n) (fo ml_s1 (a, 0) n).1 ∧ (fo ml_s1 (a, 0) n).2 < 64 ∧ (fo ml_s1 (a, 0) n).1 1 = a 1 ∧ (fo ml_s1 (a, 0) n).1 2 = a 2
  | 0 => ⟨h, Nat.succ_pos _, rfl, rfl⟩
  | n + 1 => by
    obtain ⟨h1, h2, h3, h4⟩ := ml_f1_ok hB h n
    obtain ⟨g1, g2, g3, g4⟩ := ml_s1_ok (c := n) (by omega) h1 h2
    exact ⟨g1, g2, g3.trans h3, g4.trans h4⟩
section Kho
variable {d B : Nat} {M : am_M} {a : Nat → Nat} {w : am_W4}
end Kho
