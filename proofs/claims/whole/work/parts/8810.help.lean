/-! THE LAW'S HELPERS: A CALL, AND WHAT IT THROWS -/
section Khe
variable {d : Nat} {M : am_M} {w : am_W4} {ls : am_S} {st : List am_V}
theorem bk_v {z pc : Nat} {v : Option am_V} {X : am_X} {K : Nat → am_S → List am_V → am_M → am_X → Option am_R} {F : am_R → Option am_R} : am_bk z pc ls st (some (.inl v, M, X)) K F = K (pc + 3) ls (v.toList ++ st) M X := rfl
theorem bk_e {z pc E t j : Nat} {X : am_X} {K : Nat → am_S → List am_V → am_M → am_X → Option am_R} {F : am_R → Option am_R} (h : am_hd z pc E = some (t, j)) : am_bk z pc ls st (some (.inr E, M, X)) K F = K t (am_put ls j none) [] M X := by
  unfold am_bk
  dsimp only
  rw [h]
/-- what a helper makes of its callee's end: a value of its own, or the exception's code -/
def hlp (lv : Int32 → Int64) (cd : List (Nat × Nat)) (w : am_W4) (r0 r : Option am_R) : Prop := (∀ v M1, r0 = some (.inl (some (am_I v)), M1, am_Z w) → r = some (.inl (some (am_I (nI 0))), M1, am_Z (w.1, w.2.1, lv v, w.2.2.2))) ∧ ∀ E k M1 w1, (E, k) ∈ cd → r0 = some (.inr E, M1, am_Z w1) → r = some (.inl (some (am_I (nI k))), M1, am_Z w1)
theorem c1 {E k e1 k1 : Nat} (h : (E, k) ∈ [(e1, k1)]) : E = e1 ∧ k = k1 := Prod.mk.inj (List.mem_singleton.mp h)
theorem c2 {E k e1 k1 e2 k2 : Nat} (h : (E, k) ∈ [(e1, k1), (e2, k2)]) : (E = e1 ∧ k = k1) ∨ (E = e2 ∧ k = k2) := (List.mem_cons.mp h).imp Prod.mk.inj c1
theorem hd195_0 : am_hd 195 7 0 = some (17, 5) := by decide +kernel
theorem h195 {x1 x2 x3 : Int32} : hlp Int32.toInt64 [(0, 1)] w (am_ev d 66 [am_P (3, 0, 0), am_I x1, am_I x2, am_I x3] M (am_Z w)) (am_ev (d + 1) 195 [am_P (3, 0, 0), am_I x1, am_I x2, am_I x3, am_P (1, 0, 0)] M (am_Z w)) := by
  refine ⟨fun v M1 h => ?_, fun E k M1 w1 hm h => ?_⟩
  · rw [e195, h, bk_v]
    exact b195_10
  · obtain ⟨rfl, rfl⟩ := c1 hm
    rw [e195, h, bk_e hd195_0]
    exact b195_17
theorem hd196_0 : am_hd 196 5 0 = some (15, 4) := by decide +kernel
theorem h196 {x1 x2 : Int32} : hlp Int32.toInt64 [(0, 1)] w (am_ev d 67 [am_P (3, 0, 0), am_I x1, am_I x2] M (am_Z w)) (am_ev (d + 1) 196 [am_P (3, 0, 0), am_I x1, am_I x2, am_P (1, 0, 0)] M (am_Z w)) := by
  refine ⟨fun v M1 h => ?_, fun E k M1 w1 hm h => ?_⟩
  · rw [e196, h, bk_v]
    exact b196_8
  · obtain ⟨rfl, rfl⟩ := c1 hm
    rw [e196, h, bk_e hd196_0]
    exact b196_15
theorem hd197_0 : am_hd 197 7 0 = some (17, 5) := by decide +kernel
theorem h197 {x1 x2 x3 : Int32} : hlp Int32.toInt64 [(0, 1)] w (am_ev d 68 [am_P (3, 0, 0), am_I x1, am_I x2, am_I x3] M (am_Z w)) (am_ev (d + 1) 197 [am_P (3, 0, 0), am_I x1, am_I x2, am_I x3, am_P (1, 0, 0)] M (am_Z w)) := by
  refine ⟨fun v M1 h => ?_, fun E k M1 w1 hm h => ?_⟩
  · rw [e197, h, bk_v]
    exact b197_10
  · obtain ⟨rfl, rfl⟩ := c1 hm
    rw [e197, h, bk_e hd197_0]
    exact b197_17
theorem hd198_0 : am_hd 198 5 0 = some (15, 4) := by decide +kernel
theorem h198 {x1 x2 : Int32} : hlp Int32.toInt64 [(0, 1)] w (am_ev d 69 [am_P (3, 0, 0), am_I x1, am_I x2] M (am_Z w)) (am_ev (d + 1) 198 [am_P (3, 0, 0), am_I x1, am_I x2, am_P (1, 0, 0)] M (am_Z w)) := by
  refine ⟨fun v M1 h => ?_, fun E k M1 w1 hm h => ?_⟩
  · rw [e198, h, bk_v]
    exact b198_8
  · obtain ⟨rfl, rfl⟩ := c1 hm
    rw [e198, h, bk_e hd198_0]
    exact b198_15
theorem hd199_0 : am_hd 199 5 0 = some (15, 4) := by decide +kernel
theorem h199 {x1 x2 : Int32} : hlp Int32.toInt64 [(0, 1)] w (am_ev d 70 [am_P (3, 0, 0), am_I x1, am_I x2] M (am_Z w)) (am_ev (d + 1) 199 [am_P (3, 0, 0), am_I x1, am_I x2, am_P (1, 0, 0)] M (am_Z w)) := by
  refine ⟨fun v M1 h => ?_, fun E k M1 w1 hm h => ?_⟩
  · rw [e199, h, bk_v]
    exact b199_8
  · obtain ⟨rfl, rfl⟩ := c1 hm
    rw [e199, h, bk_e hd199_0]
    exact b199_15
theorem hd200_0 : am_hd 200 7 0 = some (17, 5) := by decide +kernel
theorem h200 {x1 x2 x3 : Int32} : hlp Int32.toInt64 [(0, 1)] w (am_ev d 71 [am_P (3, 0, 0), am_I x1, am_I x2, am_I x3] M (am_Z w)) (am_ev (d + 1) 200 [am_P (3, 0, 0), am_I x1, am_I x2, am_I x3, am_P (1, 0, 0)] M (am_Z w)) := by
  refine ⟨fun v M1 h => ?_, fun E k M1 w1 hm h => ?_⟩
  · rw [e200, h, bk_v]
    exact b200_10
  · obtain ⟨rfl, rfl⟩ := c1 hm
    rw [e200, h, bk_e hd200_0]
    exact b200_17
theorem hd201_0 : am_hd 201 4 0 = some (13, 3) := by decide +kernel
theorem h201 {x1 : Int32} : hlp Int32.toInt64 [(0, 1)] w (am_ev d 72 [am_P (3, 0, 0), am_I x1] M (am_Z w)) (am_ev (d + 1) 201 [am_P (3, 0, 0), am_I x1, am_P (1, 0, 0)] M (am_Z w)) := by
  refine ⟨fun v M1 h => ?_, fun E k M1 w1 hm h => ?_⟩
  · rw [e201, h, bk_v]
    exact b201_7
  · obtain ⟨rfl, rfl⟩ := c1 hm
    rw [e201, h, bk_e hd201_0]
    exact b201_13
theorem hd202_0 : am_hd 202 4 0 = some (13, 3) := by decide +kernel
theorem h202 {x1 : Int32} : hlp Int32.toInt64 [(0, 1)] w (am_ev d 73 [am_P (3, 0, 0), am_I x1] M (am_Z w)) (am_ev (d + 1) 202 [am_P (3, 0, 0), am_I x1, am_P (1, 0, 0)] M (am_Z w)) := by
  refine ⟨fun v M1 h => ?_, fun E k M1 w1 hm h => ?_⟩
  · rw [e202, h, bk_v]
    exact b202_7
  · obtain ⟨rfl, rfl⟩ := c1 hm
    rw [e202, h, bk_e hd202_0]
    exact b202_13
theorem hd203_1 : am_hd 203 5 1 = some (15, 4) := by decide +kernel
theorem hd203_2 : am_hd 203 5 2 = some (19, 4) := by decide +kernel
theorem h203 {x1 x2 : Int32} : hlp Int32.toInt64 [(1, 1), (2, 2)] w (am_ev d 75 [am_P (3, 0, 0), am_I x1, am_I x2] M (am_Z w)) (am_ev (d + 1) 203 [am_P (3, 0, 0), am_I x1, am_I x2, am_P (1, 0, 0)] M (am_Z w)) := by
  refine ⟨fun v M1 h => ?_, fun E k M1 w1 hm h => ?_⟩
  · rw [e203, h, bk_v]
    exact b203_8
  · rcases c2 hm with ⟨rfl, rfl⟩ | ⟨rfl, rfl⟩
    · rw [e203, h, bk_e hd203_1]
      exact b203_15
    · rw [e203, h, bk_e hd203_2]
      exact b203_19
theorem hd204_1 : am_hd 204 5 1 = some (15, 4) := by decide +kernel
theorem hd204_2 : am_hd 204 5 2 = some (19, 4) := by decide +kernel
theorem h204 {x1 x2 : Int32} : hlp Int32.toInt64 [(1, 1), (2, 2)] w (am_ev d 76 [am_P (3, 0, 0), am_I x1, am_I x2] M (am_Z w)) (am_ev (d + 1) 204 [am_P (3, 0, 0), am_I x1, am_I x2, am_P (1, 0, 0)] M (am_Z w)) := by
  refine ⟨fun v M1 h => ?_, fun E k M1 w1 hm h => ?_⟩
  · rw [e204, h, bk_v]
    exact b204_8
  · rcases c2 hm with ⟨rfl, rfl⟩ | ⟨rfl, rfl⟩
    · rw [e204, h, bk_e hd204_1]
      exact b204_15
    · rw [e204, h, bk_e hd204_2]
      exact b204_19
theorem hd205_2 : am_hd 205 4 2 = some (13, 3) := by decide +kernel
theorem h205 {x1 : Int32} : hlp Int32.toInt64 [(2, 1)] w (am_ev d 77 [am_P (3, 0, 0), am_I x1] M (am_Z w)) (am_ev (d + 1) 205 [am_P (3, 0, 0), am_I x1, am_P (1, 0, 0)] M (am_Z w)) := by
  refine ⟨fun v M1 h => ?_, fun E k M1 w1 hm h => ?_⟩
  · rw [e205, h, bk_v]
    exact b205_7
  · obtain ⟨rfl, rfl⟩ := c1 hm
    rw [e205, h, bk_e hd205_2]
    exact b205_13
theorem hd206_1 : am_hd 206 5 1 = some (15, 4) := by decide +kernel
theorem hd206_2 : am_hd 206 5 2 = some (19, 4) := by decide +kernel
theorem h206 {x1 x2 : Int32} : hlp Int32.toInt64 [(1, 1), (2, 2)] w (am_ev d 85 [am_P (3, 0, 0), am_I x1, am_I x2] M (am_Z w)) (am_ev (d + 1) 206 [am_P (3, 0, 0), am_I x1, am_I x2, am_P (1, 0, 0)] M (am_Z w)) := by
  refine ⟨fun v M1 h => ?_, fun E k M1 w1 hm h => ?_⟩
  · rw [e206, h, bk_v]
    exact b206_8
  · rcases c2 hm with ⟨rfl, rfl⟩ | ⟨rfl, rfl⟩
    · rw [e206, h, bk_e hd206_1]
      exact b206_15
    · rw [e206, h, bk_e hd206_2]
      exact b206_19
theorem hd207_1 : am_hd 207 5 1 = some (15, 4) := by decide +kernel
theorem h207 {x1 x2 : Int32} : hlp Int32.toInt64 [(1, 1)] w (am_ev d 86 [am_P (3, 0, 0), am_I x1, am_I x2] M (am_Z w)) (am_ev (d + 1) 207 [am_P (3, 0, 0), am_I x1, am_I x2, am_P (1, 0, 0)] M (am_Z w)) := by
  refine ⟨fun v M1 h => ?_, fun E k M1 w1 hm h => ?_⟩
  · rw [e207, h, bk_v]
    exact b207_8
  · obtain ⟨rfl, rfl⟩ := c1 hm
    rw [e207, h, bk_e hd207_1]
    exact b207_15
theorem hd208_1 : am_hd 208 4 1 = some (13, 3) := by decide +kernel
theorem h208 {x1 : Int32} : hlp Int32.toInt64 [(1, 1)] w (am_ev d 87 [am_P (3, 0, 0), am_I x1] M (am_Z w)) (am_ev (d + 1) 208 [am_P (3, 0, 0), am_I x1, am_P (1, 0, 0)] M (am_Z w)) := by
  refine ⟨fun v M1 h => ?_, fun E k M1 w1 hm h => ?_⟩
  · rw [e208, h, bk_v]
    exact b208_7
  · obtain ⟨rfl, rfl⟩ := c1 hm
    rw [e208, h, bk_e hd208_1]
    exact b208_13
theorem hd209_1 : am_hd 209 5 1 = some (15, 4) := by decide +kernel
theorem hd209_3 : am_hd 209 5 3 = some (19, 4) := by decide +kernel
theorem h209 {x1 x2 : Int32} : hlp Int32.toInt64 [(1, 1), (3, 2)] w (am_ev d 88 [am_P (3, 0, 0), am_I x1, am_I x2] M (am_Z w)) (am_ev (d + 1) 209 [am_P (3, 0, 0), am_I x1, am_I x2, am_P (1, 0, 0)] M (am_Z w)) := by
  refine ⟨fun v M1 h => ?_, fun E k M1 w1 hm h => ?_⟩
  · rw [e209, h, bk_v]
    exact b209_8
  · rcases c2 hm with ⟨rfl, rfl⟩ | ⟨rfl, rfl⟩
    · rw [e209, h, bk_e hd209_1]
      exact b209_15
    · rw [e209, h, bk_e hd209_3]
      exact b209_19
theorem hd210_3 : am_hd 210 4 3 = some (13, 3) := by decide +kernel
theorem h210 {x1 : Int32} : hlp Int32.toInt64 [(3, 1)] w (am_ev d 89 [am_P (3, 0, 0), am_I x1] M (am_Z w)) (am_ev (d + 1) 210 [am_P (3, 0, 0), am_I x1, am_P (1, 0, 0)] M (am_Z w)) := by
  refine ⟨fun v M1 h => ?_, fun E k M1 w1 hm h => ?_⟩
  · rw [e210, h, bk_v]
    exact b210_7
  · obtain ⟨rfl, rfl⟩ := c1 hm
    rw [e210, h, bk_e hd210_3]
    exact b210_13
theorem hd211_1 : am_hd 211 5 1 = some (15, 4) := by decide +kernel
theorem hd211_3 : am_hd 211 5 3 = some (19, 4) := by decide +kernel
theorem h211 {x1 x2 : Int32} : hlp Int32.toInt64 [(1, 1), (3, 2)] w (am_ev d 78 [am_P (3, 0, 0), am_I x1, am_I x2] M (am_Z w)) (am_ev (d + 1) 211 [am_P (3, 0, 0), am_I x1, am_I x2, am_P (1, 0, 0)] M (am_Z w)) := by
  refine ⟨fun v M1 h => ?_, fun E k M1 w1 hm h => ?_⟩
  · rw [e211, h, bk_v]
    exact b211_8
  · rcases c2 hm with ⟨rfl, rfl⟩ | ⟨rfl, rfl⟩
    · rw [e211, h, bk_e hd211_1]
      exact b211_15
    · rw [e211, h, bk_e hd211_3]
      exact b211_19
theorem hd212_1 : am_hd 212 5 1 = some (22, 4) := by decide +kernel
theorem hd212_3 : am_hd 212 5 3 = some (26, 4) := by decide +kernel
theorem h212 {x1 x2 : Int32} : hlp (fun v => if v = 0 then 0 else 1) [(1, 1), (3, 2)] w (am_ev d 79 [am_P (3, 0, 0), am_I x1, am_I x2] M (am_Z w)) (am_ev (d + 1) 212 [am_P (3, 0, 0), am_I x1, am_I x2, am_P (1, 0, 0)] M (am_Z w)) := by
  refine ⟨fun v M1 h => ?_, fun E k M1 w1 hm h => ?_⟩
  · rw [e212, h, bk_v]
    refine b212_8.trans ?_
    dsimp only
    by_cases hv : v = 0
    · rw [if_pos hv, if_pos hv]
    · rw [if_neg hv, if_neg hv]
  · rcases c2 hm with ⟨rfl, rfl⟩ | ⟨rfl, rfl⟩
    · rw [e212, h, bk_e hd212_1]
      exact b212_22
    · rw [e212, h, bk_e hd212_3]
      exact b212_26
theorem hd213_1 : am_hd 213 5 1 = some (15, 4) := by decide +kernel
theorem hd213_2 : am_hd 213 5 2 = some (19, 4) := by decide +kernel
theorem h213 {x1 x2 : Int32} : hlp Int32.toInt64 [(1, 1), (2, 2)] w (am_ev d 80 [am_P (3, 0, 0), am_I x1, am_I x2] M (am_Z w)) (am_ev (d + 1) 213 [am_P (3, 0, 0), am_I x1, am_I x2, am_P (1, 0, 0)] M (am_Z w)) := by
  refine ⟨fun v M1 h => ?_, fun E k M1 w1 hm h => ?_⟩
  · rw [e213, h, bk_v]
    exact b213_8
  · rcases c2 hm with ⟨rfl, rfl⟩ | ⟨rfl, rfl⟩
    · rw [e213, h, bk_e hd213_1]
      exact b213_15
    · rw [e213, h, bk_e hd213_2]
      exact b213_19
theorem hd214_1 : am_hd 214 4 1 = some (13, 3) := by decide +kernel
theorem hd214_3 : am_hd 214 4 3 = some (16, 3) := by decide +kernel
theorem h214 {x1 : Int32} : hlp Int32.toInt64 [(1, 1), (3, 2)] w (am_ev d 90 [am_P (3, 0, 0), am_I x1] M (am_Z w)) (am_ev (d + 1) 214 [am_P (3, 0, 0), am_I x1, am_P (1, 0, 0)] M (am_Z w)) := by
  refine ⟨fun v M1 h => ?_, fun E k M1 w1 hm h => ?_⟩
  · rw [e214, h, bk_v]
    exact b214_7
  · rcases c2 hm with ⟨rfl, rfl⟩ | ⟨rfl, rfl⟩
    · rw [e214, h, bk_e hd214_1]
      exact b214_13
    · rw [e214, h, bk_e hd214_3]
      exact b214_16
theorem hd215_1 : am_hd 215 4 1 = some (13, 3) := by decide +kernel
theorem hd215_3 : am_hd 215 4 3 = some (16, 3) := by decide +kernel
theorem h215 {x1 : Int32} : hlp Int32.toInt64 [(1, 1), (3, 2)] w (am_ev d 91 [am_P (3, 0, 0), am_I x1] M (am_Z w)) (am_ev (d + 1) 215 [am_P (3, 0, 0), am_I x1, am_P (1, 0, 0)] M (am_Z w)) := by
  refine ⟨fun v M1 h => ?_, fun E k M1 w1 hm h => ?_⟩
  · rw [e215, h, bk_v]
    exact b215_7
  · rcases c2 hm with ⟨rfl, rfl⟩ | ⟨rfl, rfl⟩
    · rw [e215, h, bk_e hd215_1]
      exact b215_13
    · rw [e215, h, bk_e hd215_3]
      exact b215_16
theorem hd216_3 : am_hd 216 4 3 = some (13, 3) := by decide +kernel
theorem h216 {x1 : Int32} : hlp Int32.toInt64 [(3, 1)] w (am_ev d 94 [am_P (3, 0, 0), am_I x1] M (am_Z w)) (am_ev (d + 1) 216 [am_P (3, 0, 0), am_I x1, am_P (1, 0, 0)] M (am_Z w)) := by
  refine ⟨fun v M1 h => ?_, fun E k M1 w1 hm h => ?_⟩
  · rw [e216, h, bk_v]
    exact b216_7
  · obtain ⟨rfl, rfl⟩ := c1 hm
    rw [e216, h, bk_e hd216_3]
    exact b216_13
theorem hd217_4 : am_hd 217 4 4 = some (13, 3) := by decide +kernel
theorem h217 {x1 : Int32} : hlp Int32.toInt64 [(4, 1)] w (am_ev d 98 [am_P (3, 0, 0), am_I x1] M (am_Z w)) (am_ev (d + 1) 217 [am_P (3, 0, 0), am_I x1, am_P (1, 0, 0)] M (am_Z w)) := by
  refine ⟨fun v M1 h => ?_, fun E k M1 w1 hm h => ?_⟩
  · rw [e217, h, bk_v]
    exact b217_7
  · obtain ⟨rfl, rfl⟩ := c1 hm
    rw [e217, h, bk_e hd217_4]
    exact b217_13
theorem hd218_2 : am_hd 218 3 2 = some (12, 2) := by decide +kernel
theorem hd218_0 : am_hd 218 3 0 = some (15, 2) := by decide +kernel
theorem h218 : hlp Int32.toInt64 [(2, 1), (0, 2)] w (am_ev d 99 [am_P (3, 0, 0)] M (am_Z w)) (am_ev (d + 1) 218 [am_P (3, 0, 0), am_P (1, 0, 0)] M (am_Z w)) := by
  refine ⟨fun v M1 h => ?_, fun E k M1 w1 hm h => ?_⟩
  · rw [e218, h, bk_v]
    exact b218_6
  · rcases c2 hm with ⟨rfl, rfl⟩ | ⟨rfl, rfl⟩
    · rw [e218, h, bk_e hd218_2]
      exact b218_12
    · rw [e218, h, bk_e hd218_0]
      exact b218_15
theorem hd219_2 : am_hd 219 4 2 = some (13, 3) := by decide +kernel
theorem hd219_3 : am_hd 219 4 3 = some (16, 3) := by decide +kernel
theorem h219 {x1 : Int32} : hlp Int32.toInt64 [(2, 1), (3, 2)] w (am_ev d 101 [am_P (3, 0, 0), am_I x1] M (am_Z w)) (am_ev (d + 1) 219 [am_P (3, 0, 0), am_I x1, am_P (1, 0, 0)] M (am_Z w)) := by
  refine ⟨fun v M1 h => ?_, fun E k M1 w1 hm h => ?_⟩
  · rw [e219, h, bk_v]
    exact b219_7
  · rcases c2 hm with ⟨rfl, rfl⟩ | ⟨rfl, rfl⟩
    · rw [e219, h, bk_e hd219_2]
      exact b219_13
    · rw [e219, h, bk_e hd219_3]
      exact b219_16
theorem hd220_1 : am_hd 220 4 1 = some (13, 3) := by decide +kernel
theorem h220 {x1 : Int32} : hlp Int32.toInt64 [(1, 1)] w (am_ev d 102 [am_P (3, 0, 0), am_I x1] M (am_Z w)) (am_ev (d + 1) 220 [am_P (3, 0, 0), am_I x1, am_P (1, 0, 0)] M (am_Z w)) := by
  refine ⟨fun v M1 h => ?_, fun E k M1 w1 hm h => ?_⟩
  · rw [e220, h, bk_v]
    exact b220_7
  · obtain ⟨rfl, rfl⟩ := c1 hm
    rw [e220, h, bk_e hd220_1]
    exact b220_13
theorem hd221_1 : am_hd 221 4 1 = some (13, 3) := by decide +kernel
theorem h221 {x1 : Int32} : hlp Int32.toInt64 [(1, 1)] w (am_ev d 105 [am_P (3, 0, 0), am_I x1] M (am_Z w)) (am_ev (d + 1) 221 [am_P (3, 0, 0), am_I x1, am_P (1, 0, 0)] M (am_Z w)) := by
  refine ⟨fun v M1 h => ?_, fun E k M1 w1 hm h => ?_⟩
  · rw [e221, h, bk_v]
    exact b221_7
  · obtain ⟨rfl, rfl⟩ := c1 hm
    rw [e221, h, bk_e hd221_1]
    exact b221_13
theorem hd222_5 : am_hd 222 3 5 = some (12, 2) := by decide +kernel
theorem h222v {q : UInt32} {M1 : am_M} (hg : FP.f2d q &&& 0x7fffffffffffffff ≤ 0x7ff0000000000000) (h : am_ev d 81 [am_P (3, 0, 0)] M (am_Z w) = some (.inl (some (.inl (.float q))), M1, am_Z w)) : am_ev (d + 1) 222 [am_P (3, 0, 0), am_P (2, 0, 0)] M (am_Z w) = some (.inl (some (am_I (nI 0))), M1, am_Z (w.1, w.2.1, w.2.2.1, (FP.f2d q))) := by
  rw [e222, h, bk_v]
  refine b222_6.trans ?_
  rw [if_pos hg]
theorem h222e {M1 : am_M} {w1 : am_W4} (h : am_ev d 81 [am_P (3, 0, 0)] M (am_Z w) = some (.inr 5, M1, am_Z w1)) : am_ev (d + 1) 222 [am_P (3, 0, 0), am_P (2, 0, 0)] M (am_Z w) = some (.inl (some (am_I (nI 1))), M1, am_Z w1) := by
  rw [e222, h, bk_e hd222_5]
  exact b222_12
theorem hd223_5 : am_hd 223 3 5 = some (11, 2) := by decide +kernel
theorem h223v {q : UInt64} {M1 : am_M} (h : am_ev d 97 [am_P (3, 0, 0)] M (am_Z w) = some (.inl (some (.inl (.double q))), M1, am_Z w)) : am_ev (d + 1) 223 [am_P (3, 0, 0), am_P (2, 0, 0)] M (am_Z w) = some (.inl (some (am_I (nI 0))), M1, am_Z (w.1, w.2.1, w.2.2.1, q)) := by
  rw [e223, h, bk_v]
  refine b223_6.trans ?_
  rfl
theorem h223e {M1 : am_M} {w1 : am_W4} (h : am_ev d 97 [am_P (3, 0, 0)] M (am_Z w) = some (.inr 5, M1, am_Z w1)) : am_ev (d + 1) 223 [am_P (3, 0, 0), am_P (2, 0, 0)] M (am_Z w) = some (.inl (some (am_I (nI 1))), M1, am_Z w1) := by
  rw [e223, h, bk_e hd223_5]
  exact b223_11
theorem hd224_2 : am_hd 224 4 2 = some (13, 3) := by decide +kernel
theorem h224 {x1 : Int32} : hlp Int32.toInt64 [(2, 1)] w (am_ev d 106 [am_P (3, 0, 0), am_I x1] M (am_Z w)) (am_ev (d + 1) 224 [am_P (3, 0, 0), am_I x1, am_P (1, 0, 0)] M (am_Z w)) := by
  refine ⟨fun v M1 h => ?_, fun E k M1 w1 hm h => ?_⟩
  · rw [e224, h, bk_v]
    exact b224_7
  · obtain ⟨rfl, rfl⟩ := c1 hm
    rw [e224, h, bk_e hd224_2]
    exact b224_13
theorem hd225_4 : am_hd 225 3 4 = some (12, 2) := by decide +kernel
theorem h225 : hlp Int32.toInt64 [(4, 1)] w (am_ev d 107 [am_P (3, 0, 0)] M (am_Z w)) (am_ev (d + 1) 225 [am_P (3, 0, 0), am_P (1, 0, 0)] M (am_Z w)) := by
  refine ⟨fun v M1 h => ?_, fun E k M1 w1 hm h => ?_⟩
  · rw [e225, h, bk_v]
    exact b225_6
  · obtain ⟨rfl, rfl⟩ := c1 hm
    rw [e225, h, bk_e hd225_4]
    exact b225_12
theorem hd226_4 : am_hd 226 3 4 = some (12, 2) := by decide +kernel
theorem h226 : hlp Int32.toInt64 [(4, 1)] w (am_ev d 109 [am_P (3, 0, 0)] M (am_Z w)) (am_ev (d + 1) 226 [am_P (3, 0, 0), am_P (1, 0, 0)] M (am_Z w)) := by
  refine ⟨fun v M1 h => ?_, fun E k M1 w1 hm h => ?_⟩
  · rw [e226, h, bk_v]
    exact b226_6
  · obtain ⟨rfl, rfl⟩ := c1 hm
    rw [e226, h, bk_e hd226_4]
    exact b226_12
end Khe
