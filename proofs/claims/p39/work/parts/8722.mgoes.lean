/-! THE REFERENCE'S HOUR -/
def fo {S : Type} (f : S → Nat → S) (s : S) : Nat → S
  | 0 => s
  | n + 1 => f (fo f s n) n
/-- the messages of a row 'now' are sound -/
def ml_w (a : Nat → Nat) : Prop := ∀ m, m < a 2 → a (60 + 19 * m + 0) < a 1 ∧ a (60 + 19 * m + 1) < a 1 ∧ a (60 + 19 * m + 2) < a 1 ∧ 1 ≤ a (60 + 19 * m + 3) ∧ a (60 + 19 * m + 3) ≤ 8 ∧ a (60 + 19 * m + 4) < a (60 + 19 * m + 3) ∧ a (60 + 19 * m + 5) ≤ 3 ∧ a (60 + 19 * m + 6) ≤ 2 ∧ a (60 + 19 * m + 9) ≤ 1 ∧ a (60 + 19 * m + 10) ≤ 2 ∧ (∀ k, k < 8 → a (60 + 19 * m + (11 + k)) ≤ 8) ∧ (a (60 + 19 * m + 6) = 0 → a (60 + 19 * m + 2) ≠ a (60 + 19 * m + 1)) ∧ (a (60 + 19 * m + 10) ≠ 0 → a (60 + 19 * m + 6) = 0)
theorem ml_b.nu {B i v : Nat} {a : Nat → Nat} (h : ml_b B a) (hv : v ≤ B) (c1 : i = 1 → v ≤ 6) (c2 : i = 2 → v ≤ 16) (c3 : ∀ m f, m < 16 → f < 19 → f ≠ 7 → f ≠ 8 → i = 60 + 19 * m + f → v < 100) (c4 : ∀ c f, c < 6 → f < 4 → i = 12 + 6 * c + f → v < 100) (c5 : 4 ≤ i → i < 12 → v < 1000) (c6 : 48 ≤ i → i < 60 → v < 100) : ml_b B (nu a i v) := by
  obtain ⟨b1, b2, b3, b4, b5, b6, b7⟩ := h
  refine ⟨?_, ?_, fun j hj => ?_, fun m f hm hf h7 h8 => ?_, fun c f hc hf => ?_, fun j h4 h12 => ?_, fun j h48 h60 => ?_⟩ <;> unfold _root_.Jvm.Pilot.CBellTelegraphLaw_law_r3965_e4c15b.nu
  · split
    · exact c1 (by omega)
    · exact b1
  · split
    · exact c2 (by omega)
    · exact b2
  · split
    · exact hv
    · exact b3 j hj
  · split
    · exact c3 m f hm hf h7 h8 (by omega)
    · exact b4 m f hm hf h7 h8
  · split
    · exact c4 c f hc hf (by omega)
    · exact b5 c f hc hf
  · split
    · exact c5 (by omega) (by omega)
    · exact b6 j h4 h12
  · split
    · exact c6 (by omega) (by omega)
    · exact b7 j h48 h60
theorem ml_b.mono {B B' : Nat} {a : Nat → Nat} (h : ml_b B a) (hB : B ≤ B') : ml_b B' a := ⟨h.1, h.2.1, fun j hj => Nat.le_trans (h.2.2.1 j hj) hB, h.2.2.2⟩
/-- a sign of m that is due -/
def ml_due (a : Nat → Nat) (m : Nat) : Nat := a (60 + 19 * m + (11 + a (60 + 19 * m + 4)))
def ml_hrs (a : Nat → Nat) (s : Nat) : Nat := if s = 0 then 1 else a (4 + s - 1) % 4 + 1
/-- rung for an hour -/
def ml_r1 (a : Nat → Nat) (m : Nat) (fst : Bool) : Nat → Nat :=
  nu (if fst = true ∧ ml_heard a (a (60 + 19 * m + 2)) (ml_next a m) = true then nu a (12 + 6 * a (60 + 19 * m + 2) + 4) (a (12 + 6 * a (60 + 19 * m + 2) + 4) + 1) else nu (nu a (12 + 6 * a (60 + 19 * m + 2) + 4) (a (12 + 6 * a (60 + 19 * m + 2) + 4) + 1)) (60 + 19 * m + 9) 0) (60 + 19 * m + 5) (a (60 + 19 * m + 5) + 1)
/-- written or lost -/
def ml_r2 (a b : Nat → Nat) (m : Nat) : Nat → Nat :=
  if 0 < ml_due a m ∧ b (60 + 19 * m + 9) = 0 then nu (nu b (60 + 19 * m + (11 + a (60 + 19 * m + 4))) 0) (12 + 6 * ml_next a m + 5) (a (12 + 6 * ml_next a m + 5) + 1) else b
/-- the next sign is due -/
def ml_r3 (a b : Nat → Nat) (m : Nat) : Nat → Nat :=
  nu (nu (nu b (60 + 19 * m + 4) (a (60 + 19 * m + 4) + 1)) (60 + 19 * m + 5) 0) (60 + 19 * m + 9) 1
def ml_r4 (a b : Nat → Nat) (m : Nat) : Nat → Nat :=
  if a (60 + 19 * m + 4) + 1 < a (60 + 19 * m + 3) then b else nu (nu b (60 + 19 * m + 4) 0) (60 + 19 * m + 10) 1
def ml_rings (a : Nat → Nat) (m : Nat) (fst : Bool) : Nat → Nat :=
  if a (60 + 19 * m + 5) + 1 < ml_hrs a (ml_due a m) then ml_r1 a m fst else ml_r4 a (ml_r3 a (ml_r2 a (ml_r1 a m fst) m) m) m
section Kgo
variable {d B : Nat} {M : am_M} {a : Nat → Nat} {w : am_W4}
theorem ml_next_lt {m n : Nat} (h1 : a (60 + 19 * m + 1) < n) (h2 : a (60 + 19 * m + 2) < n) : ml_next a m < n := by
  unfold ml_next
  split <;> omega
end Kgo
