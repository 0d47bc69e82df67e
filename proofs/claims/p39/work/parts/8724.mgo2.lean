/-! THE REFERENCE'S HOUR: going, the winds, the whole -/
def ml_s2 (c : Nat) (b : Nat → Nat) (m : Nat) : Nat → Nat :=
  if b (60 + 19 * m + 10) = 1 ∧ b (60 + 19 * m + 2) = c then nu (nu (nu b (60 + 19 * m + 10) 2) 3 (b 3 + 1)) (60 + 19 * m + 8) (b 3) else b
def ml_s2c (b : Nat → Nat) (c : Nat) : Nat → Nat := fo (ml_s2 c) b (b 2)
def ml_s3 (s : (Nat → Nat) × Nat) (m : Nat) : (Nat → Nat) × Nat :=
  if s.1 (60 + 19 * m + 10) = 2 then
    (if ml_next s.1 m = s.1 (60 + 19 * m + 1) then (nu (nu (nu s.1 (60 + 19 * m + 10) 0) (60 + 19 * m + 2) (ml_next s.1 m)) (60 + 19 * m + 6) 1, s.2 + 1)
     else (nu (nu s.1 (60 + 19 * m + 10) 0) (60 + 19 * m + 2) (ml_next s.1 m), s.2))
  else s
def ml_s4 (b : Nat → Nat) (r : Nat) : Nat → Nat := nu b (48 + 2 * r + 1) ((3 * b (48 + 2 * r + 1) + r + 1) % 10)
def ml_g1 (a : Nat → Nat) : Nat → Nat := (fo ml_s1 (a, 0) (a 1)).1
def ml_g2 (a : Nat → Nat) : Nat → Nat := fo ml_s2c (ml_g1 a) (ml_g1 a 1)
def ml_g3 (a : Nat → Nat) : (Nat → Nat) × Nat := fo ml_s3 (ml_g2 a, 0) (ml_g2 a 2)
def ml_g4 (b : Nat → Nat) : Nat → Nat := if (b 0 + 1) % 6 = 0 then fo ml_s4 (nu b 0 (b 0 + 1)) (b 1 - 1) else nu b 0 (b 0 + 1)
/-- an hour goes by -/
def ml_goes (a : Nat → Nat) : Nat → Nat := ml_g4 (ml_g3 a).1
/-- so many messages arrive in it -/
def ml_arr (a : Nat → Nat) : Nat := (ml_g3 a).2
theorem ml_s2_ok {B c m : Nat} {b : Nat → Nat} (hB : 1000 ≤ B) (h : ml_ok B b) (hm : m < b 2) : ml_ok (B + 1) (ml_s2 c b m) ∧ ml_s2 c b m 1 = b 1 ∧ ml_s2 c b m 2 = b 2 := by
  unfold ml_s2
  split
  · rename_i hc
    have b2 := h.1.2.1
    have b3 := h.1.2.2.1 3 (by omega)
    refine ⟨⟨ml_b.nu (ml_b.nu (ml_b.nu (h.1.mono (Nat.le_succ B)) (by omega) (by omega) (by omega) (by intros; omega) (by intros; omega) (by omega) (by omega)) (by omega) (by omega) (by omega) (by intros; omega) (by intros; omega) (by omega) (by omega)) (by omega) (by omega) (by omega) (by intros; omega) (by intros; omega) (by omega) (by omega), ?_⟩, ?_, ?_⟩
    · intro q hq
      rw [nu_ne (by omega), nu_ne (by omega), nu_ne (by omega)] at hq
      have e1 : nu (nu (nu b (60 + 19 * m + 10) 2) 3 (b 3 + 1)) (60 + 19 * m + 8) (b 3) 1 = b 1 := by rw [nu_ne (by omega), nu_ne (by omega), nu_ne (by omega)]
      rw [e1]
      have f : ∀ f, f < 19 → f ≠ 8 → f ≠ 10 → nu (nu (nu b (60 + 19 * m + 10) 2) 3 (b 3 + 1)) (60 + 19 * m + 8) (b 3) (60 + 19 * q + f) = b (60 + 19 * q + f) := fun f hf h8 h10 => by rw [nu_ne (by omega), nu_ne (by omega), nu_ne (by omega)]
      rw [f 0 (by omega) (by omega) (by omega), f 1 (by omega) (by omega) (by omega), f 2 (by omega) (by omega) (by omega), f 3 (by omega) (by omega) (by omega), f 4 (by omega) (by omega) (by omega), f 5 (by omega) (by omega) (by omega), f 6 (by omega) (by omega) (by omega), f 9 (by omega) (by omega) (by omega)]
      obtain ⟨v0, v1, v2, v3, v4, v5, v6, v7, v8, v9, v10, v11, v12⟩ := h.2 q hq
      refine ⟨v0, v1, v2, v3, v4, v5, v6, v7, v8, ?_, fun k hk => by rw [f (11 + k) (by omega) (by omega) (by omega)]; exact v10 k hk, v11, fun h10 => ?_⟩
      · rw [nu_ne (by omega), nu_ne (by omega)]
        unfold nu
        split <;> omega
      · rw [nu_ne (by omega), nu_ne (by omega)] at h10
        unfold nu at h10
        split at h10
        · have : q = m := by omega
          subst this
          exact v12 (by omega)
        · exact v12 h10
    · rw [nu_ne (by omega), nu_ne (by omega), nu_ne (by omega)]
    · rw [nu_ne (by omega), nu_ne (by omega), nu_ne (by omega)]
  · exact ⟨⟨h.1.mono (Nat.le_succ B), h.2⟩, rfl, rfl⟩
theorem ml_f2_ok {B c : Nat} {b : Nat → Nat} (hB : 1000 ≤ B) (h : ml_ok B b) : ∀ n, n ≤ b 2 → ml_ok (B + n) (fo (ml_s2 c) b n) ∧ fo (ml_s2 c) b n 1 = b 1 ∧ fo (ml_s2 c) b n 2 = b 2
  | 0, _ => ⟨h, rfl, rfl⟩
  | n + 1, hn => by
    obtain ⟨h1, h3, h4⟩ := ml_f2_ok (c := c) hB h n (by omega)
    obtain ⟨g1, g3, g4⟩ := ml_s2_ok (c := c) (m := n) (by omega) h1 (by omega)
    exact ⟨g1, g3.trans h3, g4.trans h4⟩
theorem ml_s2c_ok {B c : Nat} {b : Nat → Nat} (hB : 1000 ≤ B) (h : ml_ok B b) : ml_ok (B + 16) (ml_s2c b c) ∧ ml_s2c b c 1 = b 1 ∧ ml_s2c b c 2 = b 2 := by
  obtain ⟨g1, g3, g4⟩ := ml_f2_ok (c := c) hB h (b 2) (Nat.le_refl _)
  have b2 := h.1.2.1
  exact ⟨⟨g1.1.mono (by omega), g1.2⟩, g3, g4⟩
theorem ml_f2c_ok {B : Nat} {b : Nat → Nat} (hB : 1000 ≤ B) (h : ml_ok B b) : ∀ n, ml_ok (B + 16 * n) (fo ml_s2c b n) ∧ fo ml_s2c b n 1 = b 1 ∧ fo ml_s2c b n 2 = b 2
  | 0 => ⟨h, rfl, rfl⟩
  | n + 1 => by
    obtain ⟨h1, h3, h4⟩ := ml_f2c_ok hB h n
    obtain ⟨g1, g3, g4⟩ := ml_s2c_ok (c := n) (by omega) h1
    exact ⟨⟨g1.1.mono (by omega), g1.2⟩, g3.trans h3, g4.trans h4⟩
theorem ml_s3_ok {B m : Nat} {s : (Nat → Nat) × Nat} (hB : 1000 ≤ B) (h : ml_ok B s.1) (hm : m < s.1 2) : ml_ok B (ml_s3 s m).1 ∧ (ml_s3 s m).1 1 = s.1 1 ∧ (ml_s3 s m).1 2 = s.1 2 ∧ (ml_s3 s m).2 ≤ s.2 + 1 := by
  obtain ⟨w0, w1, w2, w3, w4, w5, w6, w7, w8, w9, w10, w11, w12⟩ := h.2 m hm
  have b1 := h.1.1
  have b2 := h.1.2.1
  have hnx := ml_next_lt w1 w2
  unfold ml_s3
  split
  · rename_i h2
    have h6 := w12 (by omega)
    have base : ml_b B (nu (nu s.1 (60 + 19 * m + 10) 0) (60 + 19 * m + 2) (ml_next s.1 m)) := ml_b.nu (ml_b.nu h.1 (by omega) (by omega) (by omega) (by intros; omega) (by intros; omega) (by omega) (by omega)) (by omega) (by omega) (by omega) (by intros; omega) (by intros; omega) (by omega) (by omega)
    split
    · rename_i hf
      refine ⟨⟨ml_b.nu base (by omega) (by omega) (by omega) (by intros; omega) (by intros; omega) (by omega) (by omega), ?_⟩, ?_, ?_, Nat.le_refl _⟩
      · intro q hq
        dsimp only at hq ⊢
        rw [nu_ne (by omega), nu_ne (by omega), nu_ne (by omega)] at hq
        have e1 : nu (nu (nu s.1 (60 + 19 * m + 10) 0) (60 + 19 * m + 2) (ml_next s.1 m)) (60 + 19 * m + 6) 1 1 = s.1 1 := by rw [nu_ne (by omega), nu_ne (by omega), nu_ne (by omega)]
        rw [e1]
        have f : ∀ f, f < 19 → f ≠ 2 → f ≠ 6 → f ≠ 10 → nu (nu (nu s.1 (60 + 19 * m + 10) 0) (60 + 19 * m + 2) (ml_next s.1 m)) (60 + 19 * m + 6) 1 (60 + 19 * q + f) = s.1 (60 + 19 * q + f) := fun f hf h8 h9 h10 => by rw [nu_ne (by omega), nu_ne (by omega), nu_ne (by omega)]
        rw [f 0 (by omega) (by omega) (by omega) (by omega), f 1 (by omega) (by omega) (by omega) (by omega), f 3 (by omega) (by omega) (by omega) (by omega), f 4 (by omega) (by omega) (by omega) (by omega), f 5 (by omega) (by omega) (by omega) (by omega), f 9 (by omega) (by omega) (by omega) (by omega)]
        obtain ⟨v0, v1, v2, v3, v4, v5, v6, v7, v8, v9, v10, v11, v12⟩ := h.2 q hq
        by_cases hqm : q = m
        · subst hqm
          rw [nu_eq, nu_ne (by omega) (i := 60 + 19 * q + 6) (j := 60 + 19 * q + 2), nu_eq, nu_ne (by omega) (i := 60 + 19 * q + 6) (j := 60 + 19 * q + 10), nu_ne (by omega) (i := 60 + 19 * q + 2) (j := 60 + 19 * q + 10), nu_eq]
          exact ⟨v0, v1, hnx, v3, v4, v5, v6, by omega, v8, by omega, fun k hk => by rw [f (11 + k) (by omega) (by omega) (by omega) (by omega)]; exact v10 k hk, fun h => absurd h (by decide), fun h => absurd rfl h⟩
        · rw [nu_ne (by omega) (j := 60 + 19 * q + 2), nu_ne (by omega) (j := 60 + 19 * q + 2), nu_ne (by omega) (j := 60 + 19 * q + 2), nu_ne (by omega) (j := 60 + 19 * q + 6), nu_ne (by omega) (j := 60 + 19 * q + 6), nu_ne (by omega) (j := 60 + 19 * q + 6), nu_ne (by omega) (j := 60 + 19 * q + 10), nu_ne (by omega) (j := 60 + 19 * q + 10), nu_ne (by omega) (j := 60 + 19 * q + 10)]
          exact ⟨v0, v1, v2, v3, v4, v5, v6, v7, v8, v9, fun k hk => by rw [f (11 + k) (by omega) (by omega) (by omega) (by omega)]; exact v10 k hk, v11, v12⟩
      · dsimp only
        rw [nu_ne (by omega), nu_ne (by omega), nu_ne (by omega)]
      · dsimp only
        rw [nu_ne (by omega), nu_ne (by omega), nu_ne (by omega)]
    · rename_i hf
      refine ⟨⟨base, ?_⟩, ?_, ?_, Nat.le_succ _⟩
      · intro q hq
        dsimp only at hq ⊢
        rw [nu_ne (by omega), nu_ne (by omega)] at hq
        have e1 : nu (nu s.1 (60 + 19 * m + 10) 0) (60 + 19 * m + 2) (ml_next s.1 m) 1 = s.1 1 := by rw [nu_ne (by omega), nu_ne (by omega)]
        rw [e1]
        have f : ∀ f, f < 19 → f ≠ 2 → f ≠ 10 → nu (nu s.1 (60 + 19 * m + 10) 0) (60 + 19 * m + 2) (ml_next s.1 m) (60 + 19 * q + f) = s.1 (60 + 19 * q + f) := fun f hf h8 h10 => by rw [nu_ne (by omega), nu_ne (by omega)]
        rw [f 0 (by omega) (by omega) (by omega), f 1 (by omega) (by omega) (by omega), f 3 (by omega) (by omega) (by omega), f 4 (by omega) (by omega) (by omega), f 5 (by omega) (by omega) (by omega), f 6 (by omega) (by omega) (by omega), f 9 (by omega) (by omega) (by omega)]
        obtain ⟨v0, v1, v2, v3, v4, v5, v6, v7, v8, v9, v10, v11, v12⟩ := h.2 q hq
        by_cases hqm : q = m
        · subst hqm
          rw [nu_eq, nu_ne (by omega) (i := 60 + 19 * q + 2) (j := 60 + 19 * q + 10), nu_eq]
          exact ⟨v0, v1, hnx, v3, v4, v5, v6, v7, v8, by omega, fun k hk => by rw [f (11 + k) (by omega) (by omega) (by omega)]; exact v10 k hk, fun _ => hf, fun h => absurd rfl h⟩
        · rw [nu_ne (by omega) (j := 60 + 19 * q + 2), nu_ne (by omega) (j := 60 + 19 * q + 2), nu_ne (by omega) (j := 60 + 19 * q + 10), nu_ne (by omega) (j := 60 + 19 * q + 10)]
          exact ⟨v0, v1, v2, v3, v4, v5, v6, v7, v8, v9, fun k hk => by rw [f (11 + k) (by omega) (by omega) (by omega)]; exact v10 k hk, v11, v12⟩
      · dsimp only
        rw [nu_ne (by omega), nu_ne (by omega)]
      · dsimp only
        rw [nu_ne (by omega), nu_ne (by omega)]
  · exact ⟨h, rfl, rfl, Nat.le_succ _⟩
theorem ml_f3_ok {B : Nat} {b : Nat → Nat} (hB : 1000 ≤ B) (h : ml_ok B b) : ∀ n, n ≤ b 2 → ml_ok B (fo ml_s3 (b, 0) n).1 ∧ (fo ml_s3 (b, 0) n).1 1 = b 1 ∧ (fo ml_s3 (b, 0) n).1 2 = b 2 ∧ (fo ml_s3 (b, 0) n).2 ≤ n
  | 0, _ => ⟨h, rfl, rfl, Nat.le_refl _⟩
  | n + 1, hn => by
    obtain ⟨h1, h3, h4, h5⟩ := ml_f3_ok hB h n (by omega)
    obtain ⟨g1, g3, g4, g5⟩ := ml_s3_ok (m := n) hB h1 (by omega)
    exact ⟨g1, g3.trans h3, g4.trans h4, Nat.le_trans g5 (by omega)⟩
theorem ml_w_of {a b : Nat → Nat} (h : ml_w a) (h1 : b 1 = a 1) (h2 : b 2 = a 2) (h3 : ∀ m f, m < a 2 → f < 19 → f ≠ 7 → f ≠ 8 → b (60 + 19 * m + f) = a (60 + 19 * m + f)) : ml_w b := by
  intro q hq
  rw [h2] at hq
  rw [h1, h3 q 0 hq (by omega) (by omega) (by omega), h3 q 1 hq (by omega) (by omega) (by omega), h3 q 2 hq (by omega) (by omega) (by omega), h3 q 3 hq (by omega) (by omega) (by omega), h3 q 4 hq (by omega) (by omega) (by omega), h3 q 5 hq (by omega) (by omega) (by omega), h3 q 6 hq (by omega) (by omega) (by omega), h3 q 9 hq (by omega) (by omega) (by omega), h3 q 10 hq (by omega) (by omega) (by omega)]
  obtain ⟨v0, v1, v2, v3, v4, v5, v6, v7, v8, v9, v10, v11, v12⟩ := h q hq
  exact ⟨v0, v1, v2, v3, v4, v5, v6, v7, v8, v9, fun k hk => by rw [h3 q (11 + k) hq (by omega) (by omega) (by omega)]; exact v10 k hk, v11, v12⟩
theorem ml_h_ok {B : Nat} {b : Nat → Nat} (hB : 1000 ≤ B) (h : ml_ok B b) : ml_ok (B + 1) (nu b 0 (b 0 + 1)) := by
  have b0 := h.1.2.2.1 0 (by omega)
  exact ⟨ml_b.nu (h.1.mono (Nat.le_succ B)) (by omega) (by omega) (by omega) (by intros; omega) (by intros; omega) (by omega) (by omega), ml_w_of h.2 (nu_ne (by omega)) (nu_ne (by omega)) (fun m f _ _ _ _ => nu_ne (by omega))⟩
theorem ml_f4_ok {B : Nat} {b : Nat → Nat} (hB : 1000 ≤ B) (h : ml_ok B b) : ∀ n, n < 6 → ml_ok B (fo ml_s4 b n) ∧ fo ml_s4 b n 1 = b 1 ∧ fo ml_s4 b n 2 = b 2
  | 0, _ => ⟨h, rfl, rfl⟩
  | n + 1, hn => by
    obtain ⟨h1, h3, h4⟩ := ml_f4_ok hB h n (by omega)
    have hm := Nat.mod_lt (3 * fo ml_s4 b n (48 + 2 * n + 1) + n + 1) (show 0 < 10 by decide)
    show ml_ok B (ml_s4 _ n) ∧ ml_s4 _ n 1 = _ ∧ ml_s4 _ n 2 = _
    unfold ml_s4
    rw [nu_ne (by omega), nu_ne (by omega)]
    exact ⟨⟨ml_b.nu h1.1 (by omega) (by omega) (by omega) (by intros; omega) (by intros; omega) (by omega) (by omega), ml_w_of h1.2 (nu_ne (by omega)) (nu_ne (by omega)) (fun m f _ _ _ _ => nu_ne (by omega))⟩, h3, h4⟩
theorem ml_g1_ok {B : Nat} {a : Nat → Nat} (hB : 1000 ≤ B) (h : ml_ok B a) : ml_ok (B + 6) (ml_g1 a) ∧ ml_g1 a 1 = a 1 ∧ ml_g1 a 2 = a 2 := by
  obtain ⟨g1, g2, g3, g4⟩ := ml_f1_ok hB h (a 1)
  have b1 := h.1.1
  exact ⟨⟨g1.1.mono (by omega), g1.2⟩, g3, g4⟩
theorem ml_g2_ok {B : Nat} {a : Nat → Nat} (hB : 1000 ≤ B) (h : ml_ok B a) : ml_ok (B + 150) (ml_g2 a) ∧ ml_g2 a 1 = a 1 ∧ ml_g2 a 2 = a 2 := by
  obtain ⟨g1, g3, g4⟩ := ml_g1_ok hB h
  obtain ⟨k1, k3, k4⟩ := ml_f2c_ok (b := ml_g1 a) (by omega) g1 (ml_g1 a 1)
  have b1 := h.1.1
  exact ⟨⟨k1.1.mono (by omega), k1.2⟩, k3.trans g3, k4.trans g4⟩
theorem ml_g3_ok {B : Nat} {a : Nat → Nat} (hB : 1000 ≤ B) (h : ml_ok B a) : ml_ok (B + 150) (ml_g3 a).1 ∧ (ml_g3 a).1 1 = a 1 ∧ (ml_g3 a).1 2 = a 2 ∧ (ml_g3 a).2 ≤ 16 := by
  obtain ⟨g1, g3, g4⟩ := ml_g2_ok hB h
  obtain ⟨k1, k3, k4, k5⟩ := ml_f3_ok (b := ml_g2 a) (by omega) g1 (ml_g2 a 2) (Nat.le_refl _)
  have b2 := h.1.2.1
  exact ⟨k1, k3.trans g3, k4.trans g4, by unfold ml_g3; omega⟩
theorem ml_goes_ok {B : Nat} {a : Nat → Nat} (hB : 1000 ≤ B) (h : ml_ok B a) : ml_ok (B + 200) (ml_goes a) ∧ ml_goes a 1 = a 1 ∧ ml_goes a 2 = a 2 ∧ ml_arr a ≤ 16 := by
  obtain ⟨g1, g3, g4, g5⟩ := ml_g3_ok hB h
  have h4 := ml_h_ok (b := (ml_g3 a).1) (by omega) g1
  have b1 := h.1.1
  unfold ml_goes ml_g4
  split
  · obtain ⟨k1, k3, k4⟩ := ml_f4_ok (by omega) h4 ((ml_g3 a).1 1 - 1) (by omega)
    refine ⟨⟨k1.1.mono (by omega), k1.2⟩, k3.trans ?_, k4.trans ?_, g5⟩
    · rw [nu_ne (by omega)]; exact g3
    · rw [nu_ne (by omega)]; exact g4
  · refine ⟨⟨h4.1.mono (by omega), h4.2⟩, ?_, ?_, g5⟩
    · rw [nu_ne (by omega)]; exact g3
    · rw [nu_ne (by omega)]; exact g4
theorem lt_pred {r n : Nat} (hr : r < 1000) (hn : n < 1000) : (nI r < nI n - nI 1) = (r + 1 < n) := by
  rcases Nat.lt_or_ge n 1 with h | h
  · have hn0 : n = 0 := by omega
    subst hn0
    refine propext ⟨fun h2 => ?_, fun h2 => by omega⟩
    have e := pk_sub_toInt (a := 0) (b := 1) (by omega) (by omega)
    have := Int32.lt_iff_toInt_lt.mp h2
    rw [e, nI_toInt (by omega)] at this
    omega
  · rw [pk_sub h, nI_ltJ (by omega) (by omega)]
    exact propext ⟨fun h => by omega, fun h => by omega⟩
section Kh2
variable {d B : Nat} {M : am_M} {a : Nat → Nat} {w : am_W4}
end Kh2
