/-! AN HOUR WRITES NOTHING BEHIND THE ROW -/
section Kou
variable {B j m c : Nat} {a b : Nat → Nat}
theorem next_lt6 (h : ml_ok B a) (hm : m < a 2) : ml_next a m < 6 := by
  have h1 := h.1.1
  have h2 := (h.2 m hm).2.1
  have h3 := (h.2 m hm).2.2.1
  have := ml_next_lt h2 h3
  omega
theorem r1_o {fst : Bool} (h : ml_ok B a) (hm : m < a 2) (hj : 364 ≤ j) : ml_r1 a m fst j = a j := by
  have h1 := h.1.1
  have h2 := h.1.2.1
  have h3 := (h.2 m hm).2.2.1
  unfold ml_r1
  rw [nu_ne (by omega)]
  split
  · rw [nu_ne (by omega)]
  · rw [nu_ne (by omega), nu_ne (by omega)]
theorem r2_o (h : ml_ok B a) (hm : m < a 2) (hj : 364 ≤ j) : ml_r2 a b m j = b j := by
  have h2 := h.1.2.1
  have h3 := next_lt6 h hm
  have h4 := (h.2 m hm).2.2.2.2.1
  have h5 := (h.2 m hm).2.2.2.2.2.1
  unfold ml_r2
  split
  · rw [nu_ne (by omega), nu_ne (by omega)]
  · rfl
theorem r3_o (h : ml_ok B a) (hm : m < a 2) (hj : 364 ≤ j) : ml_r3 a b m j = b j := by
  have h2 := h.1.2.1
  unfold ml_r3
  rw [nu_ne (by omega), nu_ne (by omega), nu_ne (by omega)]
theorem r4_o (h : ml_ok B a) (hm : m < a 2) (hj : 364 ≤ j) : ml_r4 a b m j = b j := by
  have h2 := h.1.2.1
  unfold ml_r4
  split
  · rfl
  · rw [nu_ne (by omega), nu_ne (by omega)]
theorem rings_o {fst : Bool} (h : ml_ok B a) (hm : m < a 2) (hj : 364 ≤ j) : ml_rings a m fst j = a j := by
  unfold ml_rings
  split
  · exact r1_o h hm hj
  · rw [r4_o h hm hj, r3_o h hm hj, r2_o h hm hj, r1_o h hm hj]
theorem s1_o {s : (Nat → Nat) × Nat} (h : ml_ok B s.1) (hj : 364 ≤ j) : (ml_s1 s c).1 j = s.1 j := by
  unfold ml_s1
  split
  · rfl
  · split
    · rfl
    · rename_i m hm
      have := (nf_some hm).2.1
      exact rings_o h (by omega) hj
theorem f1_o (hB : 1000 ≤ B) (h : ml_ok B a) (hj : 364 ≤ j) : ∀ n, (fo ml_s1 (a, 0) n).1 j = a j
  | 0 => rfl
  | n + 1 => (s1_o (ml_f1_ok hB h n).1 hj).trans (f1_o hB h hj n)
theorem s2_o (h : ml_ok B b) (hm : m < b 2) (hj : 364 ≤ j) : ml_s2 c b m j = b j := by
  have h2 := h.1.2.1
  unfold ml_s2
  split
  · rw [nu_ne (by omega), nu_ne (by omega), nu_ne (by omega)]
  · rfl
theorem f2_o (hB : 1000 ≤ B) (h : ml_ok B b) (hj : 364 ≤ j) : ∀ n, n ≤ b 2 → fo (ml_s2 c) b n j = b j
  | 0, _ => rfl
  | n + 1, hn => by
    have g := ml_f2_ok (c := c) hB h n (by omega)
    exact (s2_o g.1 (by rw [g.2.2]; omega) hj).trans (f2_o hB h hj n (by omega))
theorem f2c_o (hB : 1000 ≤ B) (h : ml_ok B b) (hj : 364 ≤ j) : ∀ n, fo ml_s2c b n j = b j
  | 0 => rfl
  | n + 1 => by
    have g := ml_f2c_ok hB h n
    exact (f2_o (by omega) g.1 hj _ (Nat.le_refl _)).trans (f2c_o hB h hj n)
theorem s3_o {s : (Nat → Nat) × Nat} (h : ml_ok B s.1) (hm : m < s.1 2) (hj : 364 ≤ j) : (ml_s3 s m).1 j = s.1 j := by
  have h2 := h.1.2.1
  unfold ml_s3
  split
  · split
    · show nu (nu (nu s.1 _ _) _ _) _ _ j = _
      rw [nu_ne (by omega), nu_ne (by omega), nu_ne (by omega)]
    · show nu (nu s.1 _ _) _ _ j = _
      rw [nu_ne (by omega), nu_ne (by omega)]
  · rfl
theorem f3_o (hB : 1000 ≤ B) (h : ml_ok B b) (hj : 364 ≤ j) : ∀ n, n ≤ b 2 → (fo ml_s3 (b, 0) n).1 j = b j
  | 0, _ => rfl
  | n + 1, hn => by
    have g := ml_f3_ok hB h n (by omega)
    exact (s3_o g.1 (by rw [g.2.2.1]; omega) hj).trans (f3_o hB h hj n (by omega))
theorem f4_o (hj : 364 ≤ j) : ∀ n, n < 6 → fo ml_s4 b n j = b j
  | 0, _ => rfl
  | n + 1, hn => by
    show nu (fo ml_s4 b n) (48 + 2 * n + 1) _ j = _
    rw [nu_ne (by omega)]
    exact f4_o hj n (by omega)
theorem goes_o (hB : 1000 ≤ B) (h : ml_ok B a) (hj : 364 ≤ j) : ml_goes a j = a j := by
  have g1 := ml_g1_ok hB h
  have g2 := ml_g2_ok hB h
  have g3 := ml_g3_ok hB h
  have e1 : ml_g1 a j = a j := f1_o hB h hj _
  have e2 : ml_g2 a j = a j := (f2c_o (by omega) g1.1 hj _).trans e1
  have e3 : (ml_g3 a).1 j = a j := (f3_o (by omega) g2.1 hj _ (Nat.le_refl _)).trans e2
  have h1 := g3.1.1.1
  unfold ml_goes ml_g4
  split
  · rw [f4_o hj _ (by omega), nu_ne (by omega), e3]
  · rw [nu_ne (by omega), e3]
end Kou
/-- a row out of one number, two bytes a place -/
def rwl (l : Nat) : Nat → Nat := fun j => if j < 364 then l / 2 ^ (16 * j) % 65536 else 0
theorem goes_rw {B : Nat} {l l' : Nat} (hB : 1000 ≤ B) (h : ml_ok B (rwl l)) (he : ∀ j, j < 364 → ml_goes (rwl l) j = rwl l' j) : ml_goes (rwl l) = rwl l' := by
  funext j
  by_cases hj : j < 364
  · exact he j hj
  · rw [goes_o hB h (by omega)]
    unfold rwl
    rw [if_neg hj, if_neg hj]
