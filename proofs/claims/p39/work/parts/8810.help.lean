/-! THE LAW'S HELPERS: A CALL, AND WHAT IT THROWS -/
section Khe
variable {d : Nat} {M : am_M} {w : am_W4} {ls : am_S} {st : List am_V}
theorem bk_v {z pc : Nat} {v : Option am_V} {X : am_X} {K : Nat → am_S → List am_V → am_M → am_X → Option am_R} {F : am_R → Option am_R} : am_bk z pc ls st (some (.inl v, M, X)) K F = K (pc + 3) ls (v.toList ++ st) M X := rfl
theorem bk_e {z pc E t j : Nat} {X : am_X} {K : Nat → am_S → List am_V → am_M → am_X → Option am_R} {F : am_R → Option am_R} (h : am_hd z pc E = some (t, j)) : am_bk z pc ls st (some (.inr E, M, X)) K F = K t (am_put ls j none) [] M X := by
  unfold am_bk
  dsimp only
  rw [h]
/-- an exception's code -/
def qc (k : Nat) : Int32 := if k = 1 then -1001 else -1002
/-- what a helper makes of its callee's end: its value, or the exception's code -/
def hlp (lv : Int32 → Int32) (cd : List (Nat × Nat)) (w : am_W4) (r0 r : Option am_R) : Prop := (∀ v M1, r0 = some (.inl (some (am_I v)), M1, am_Z w) → r = some (.inl (some (am_I (lv v))), M1, am_Z w)) ∧ ∀ E k M1 w1, (E, k) ∈ cd → r0 = some (.inr E, M1, am_Z w1) → r = some (.inl (some (am_I (qc k))), M1, am_Z w1)
theorem c1 {E k e1 k1 : Nat} (h : (E, k) ∈ [(e1, k1)]) : E = e1 ∧ k = k1 := Prod.mk.inj (List.mem_singleton.mp h)
theorem c2 {E k e1 k1 e2 k2 : Nat} (h : (E, k) ∈ [(e1, k1), (e2, k2)]) : (E = e1 ∧ k = k1) ∨ (E = e2 ∧ k = k2) := (List.mem_cons.mp h).imp Prod.mk.inj c1
theorem hd115_0 : am_hd 115 4 0 = some (10, 4) := by decide +kernel
theorem h115 {x1 x2 x3 : Int32} : hlp id [(0, 1)] w (am_ev d 66 [am_P (3, 0, 0), am_I x1, am_I x2, am_I x3] M (am_Z w)) (am_ev (d + 1) 115 [am_P (3, 0, 0), am_I x1, am_I x2, am_I x3] M (am_Z w)) := by
  refine ⟨fun v M1 h => ?_, fun E k M1 w1 hm h => ?_⟩
  · rw [e115, h, bk_v]
    exact b115_7
  · obtain ⟨rfl, rfl⟩ := c1 hm
    rw [e115, h, bk_e hd115_0]
    exact b115_10
theorem hd116_0 : am_hd 116 3 0 = some (8, 3) := by decide +kernel
theorem h116 {x1 x2 : Int32} : hlp id [(0, 1)] w (am_ev d 67 [am_P (3, 0, 0), am_I x1, am_I x2] M (am_Z w)) (am_ev (d + 1) 116 [am_P (3, 0, 0), am_I x1, am_I x2] M (am_Z w)) := by
  refine ⟨fun v M1 h => ?_, fun E k M1 w1 hm h => ?_⟩
  · rw [e116, h, bk_v]
    exact b116_6
  · obtain ⟨rfl, rfl⟩ := c1 hm
    rw [e116, h, bk_e hd116_0]
    exact b116_8
theorem hd117_0 : am_hd 117 4 0 = some (10, 4) := by decide +kernel
theorem h117 {x1 x2 x3 : Int32} : hlp id [(0, 1)] w (am_ev d 68 [am_P (3, 0, 0), am_I x1, am_I x2, am_I x3] M (am_Z w)) (am_ev (d + 1) 117 [am_P (3, 0, 0), am_I x1, am_I x2, am_I x3] M (am_Z w)) := by
  refine ⟨fun v M1 h => ?_, fun E k M1 w1 hm h => ?_⟩
  · rw [e117, h, bk_v]
    exact b117_7
  · obtain ⟨rfl, rfl⟩ := c1 hm
    rw [e117, h, bk_e hd117_0]
    exact b117_10
theorem hd118_0 : am_hd 118 3 0 = some (8, 3) := by decide +kernel
theorem h118 {x1 x2 : Int32} : hlp id [(0, 1)] w (am_ev d 69 [am_P (3, 0, 0), am_I x1, am_I x2] M (am_Z w)) (am_ev (d + 1) 118 [am_P (3, 0, 0), am_I x1, am_I x2] M (am_Z w)) := by
  refine ⟨fun v M1 h => ?_, fun E k M1 w1 hm h => ?_⟩
  · rw [e118, h, bk_v]
    exact b118_6
  · obtain ⟨rfl, rfl⟩ := c1 hm
    rw [e118, h, bk_e hd118_0]
    exact b118_8
theorem hd119_0 : am_hd 119 3 0 = some (8, 3) := by decide +kernel
theorem h119 {x1 x2 : Int32} : hlp id [(0, 1)] w (am_ev d 70 [am_P (3, 0, 0), am_I x1, am_I x2] M (am_Z w)) (am_ev (d + 1) 119 [am_P (3, 0, 0), am_I x1, am_I x2] M (am_Z w)) := by
  refine ⟨fun v M1 h => ?_, fun E k M1 w1 hm h => ?_⟩
  · rw [e119, h, bk_v]
    exact b119_6
  · obtain ⟨rfl, rfl⟩ := c1 hm
    rw [e119, h, bk_e hd119_0]
    exact b119_8
theorem hd120_0 : am_hd 120 4 0 = some (10, 4) := by decide +kernel
theorem h120 {x1 x2 x3 : Int32} : hlp id [(0, 1)] w (am_ev d 71 [am_P (3, 0, 0), am_I x1, am_I x2, am_I x3] M (am_Z w)) (am_ev (d + 1) 120 [am_P (3, 0, 0), am_I x1, am_I x2, am_I x3] M (am_Z w)) := by
  refine ⟨fun v M1 h => ?_, fun E k M1 w1 hm h => ?_⟩
  · rw [e120, h, bk_v]
    exact b120_7
  · obtain ⟨rfl, rfl⟩ := c1 hm
    rw [e120, h, bk_e hd120_0]
    exact b120_10
theorem hd121_0 : am_hd 121 2 0 = some (7, 2) := by decide +kernel
theorem h121 {x1 : Int32} : hlp id [(0, 1)] w (am_ev d 72 [am_P (3, 0, 0), am_I x1] M (am_Z w)) (am_ev (d + 1) 121 [am_P (3, 0, 0), am_I x1] M (am_Z w)) := by
  refine ⟨fun v M1 h => ?_, fun E k M1 w1 hm h => ?_⟩
  · rw [e121, h, bk_v]
    exact b121_5
  · obtain ⟨rfl, rfl⟩ := c1 hm
    rw [e121, h, bk_e hd121_0]
    exact b121_7
theorem hd122_0 : am_hd 122 2 0 = some (7, 2) := by decide +kernel
theorem h122 {x1 : Int32} : hlp id [(0, 1)] w (am_ev d 73 [am_P (3, 0, 0), am_I x1] M (am_Z w)) (am_ev (d + 1) 122 [am_P (3, 0, 0), am_I x1] M (am_Z w)) := by
  refine ⟨fun v M1 h => ?_, fun E k M1 w1 hm h => ?_⟩
  · rw [e122, h, bk_v]
    exact b122_5
  · obtain ⟨rfl, rfl⟩ := c1 hm
    rw [e122, h, bk_e hd122_0]
    exact b122_7
theorem hd123_1 : am_hd 123 3 1 = some (8, 3) := by decide +kernel
theorem hd123_2 : am_hd 123 3 2 = some (13, 3) := by decide +kernel
theorem h123 {x1 x2 : Int32} : hlp id [(1, 1), (2, 2)] w (am_ev d 75 [am_P (3, 0, 0), am_I x1, am_I x2] M (am_Z w)) (am_ev (d + 1) 123 [am_P (3, 0, 0), am_I x1, am_I x2] M (am_Z w)) := by
  refine ⟨fun v M1 h => ?_, fun E k M1 w1 hm h => ?_⟩
  · rw [e123, h, bk_v]
    exact b123_6
  · rcases c2 hm with ⟨rfl, rfl⟩ | ⟨rfl, rfl⟩
    · rw [e123, h, bk_e hd123_1]
      exact b123_8
    · rw [e123, h, bk_e hd123_2]
      exact b123_13
theorem hd124_1 : am_hd 124 3 1 = some (8, 3) := by decide +kernel
theorem hd124_2 : am_hd 124 3 2 = some (13, 3) := by decide +kernel
theorem h124 {x1 x2 : Int32} : hlp id [(1, 1), (2, 2)] w (am_ev d 76 [am_P (3, 0, 0), am_I x1, am_I x2] M (am_Z w)) (am_ev (d + 1) 124 [am_P (3, 0, 0), am_I x1, am_I x2] M (am_Z w)) := by
  refine ⟨fun v M1 h => ?_, fun E k M1 w1 hm h => ?_⟩
  · rw [e124, h, bk_v]
    exact b124_6
  · rcases c2 hm with ⟨rfl, rfl⟩ | ⟨rfl, rfl⟩
    · rw [e124, h, bk_e hd124_1]
      exact b124_8
    · rw [e124, h, bk_e hd124_2]
      exact b124_13
theorem hd125_2 : am_hd 125 2 2 = some (7, 2) := by decide +kernel
theorem h125 {x1 : Int32} : hlp id [(2, 1)] w (am_ev d 77 [am_P (3, 0, 0), am_I x1] M (am_Z w)) (am_ev (d + 1) 125 [am_P (3, 0, 0), am_I x1] M (am_Z w)) := by
  refine ⟨fun v M1 h => ?_, fun E k M1 w1 hm h => ?_⟩
  · rw [e125, h, bk_v]
    exact b125_5
  · obtain ⟨rfl, rfl⟩ := c1 hm
    rw [e125, h, bk_e hd125_2]
    exact b125_7
theorem hd126_1 : am_hd 126 3 1 = some (8, 3) := by decide +kernel
theorem hd126_2 : am_hd 126 3 2 = some (13, 3) := by decide +kernel
theorem h126 {x1 x2 : Int32} : hlp id [(1, 1), (2, 2)] w (am_ev d 85 [am_P (3, 0, 0), am_I x1, am_I x2] M (am_Z w)) (am_ev (d + 1) 126 [am_P (3, 0, 0), am_I x1, am_I x2] M (am_Z w)) := by
  refine ⟨fun v M1 h => ?_, fun E k M1 w1 hm h => ?_⟩
  · rw [e126, h, bk_v]
    exact b126_6
  · rcases c2 hm with ⟨rfl, rfl⟩ | ⟨rfl, rfl⟩
    · rw [e126, h, bk_e hd126_1]
      exact b126_8
    · rw [e126, h, bk_e hd126_2]
      exact b126_13
theorem hd127_1 : am_hd 127 3 1 = some (8, 3) := by decide +kernel
theorem h127 {x1 x2 : Int32} : hlp id [(1, 1)] w (am_ev d 86 [am_P (3, 0, 0), am_I x1, am_I x2] M (am_Z w)) (am_ev (d + 1) 127 [am_P (3, 0, 0), am_I x1, am_I x2] M (am_Z w)) := by
  refine ⟨fun v M1 h => ?_, fun E k M1 w1 hm h => ?_⟩
  · rw [e127, h, bk_v]
    exact b127_6
  · obtain ⟨rfl, rfl⟩ := c1 hm
    rw [e127, h, bk_e hd127_1]
    exact b127_8
theorem hd128_1 : am_hd 128 2 1 = some (7, 2) := by decide +kernel
theorem h128 {x1 : Int32} : hlp id [(1, 1)] w (am_ev d 87 [am_P (3, 0, 0), am_I x1] M (am_Z w)) (am_ev (d + 1) 128 [am_P (3, 0, 0), am_I x1] M (am_Z w)) := by
  refine ⟨fun v M1 h => ?_, fun E k M1 w1 hm h => ?_⟩
  · rw [e128, h, bk_v]
    exact b128_5
  · obtain ⟨rfl, rfl⟩ := c1 hm
    rw [e128, h, bk_e hd128_1]
    exact b128_7
theorem hd129_1 : am_hd 129 3 1 = some (8, 3) := by decide +kernel
theorem hd129_3 : am_hd 129 3 3 = some (13, 3) := by decide +kernel
theorem h129 {x1 x2 : Int32} : hlp id [(1, 1), (3, 2)] w (am_ev d 88 [am_P (3, 0, 0), am_I x1, am_I x2] M (am_Z w)) (am_ev (d + 1) 129 [am_P (3, 0, 0), am_I x1, am_I x2] M (am_Z w)) := by
  refine ⟨fun v M1 h => ?_, fun E k M1 w1 hm h => ?_⟩
  · rw [e129, h, bk_v]
    exact b129_6
  · rcases c2 hm with ⟨rfl, rfl⟩ | ⟨rfl, rfl⟩
    · rw [e129, h, bk_e hd129_1]
      exact b129_8
    · rw [e129, h, bk_e hd129_3]
      exact b129_13
theorem hd130_3 : am_hd 130 2 3 = some (7, 2) := by decide +kernel
theorem h130 {x1 : Int32} : hlp id [(3, 1)] w (am_ev d 89 [am_P (3, 0, 0), am_I x1] M (am_Z w)) (am_ev (d + 1) 130 [am_P (3, 0, 0), am_I x1] M (am_Z w)) := by
  refine ⟨fun v M1 h => ?_, fun E k M1 w1 hm h => ?_⟩
  · rw [e130, h, bk_v]
    exact b130_5
  · obtain ⟨rfl, rfl⟩ := c1 hm
    rw [e130, h, bk_e hd130_3]
    exact b130_7
theorem hd131_1 : am_hd 131 3 1 = some (8, 3) := by decide +kernel
theorem hd131_3 : am_hd 131 3 3 = some (13, 3) := by decide +kernel
theorem h131 {x1 x2 : Int32} : hlp id [(1, 1), (3, 2)] w (am_ev d 78 [am_P (3, 0, 0), am_I x1, am_I x2] M (am_Z w)) (am_ev (d + 1) 131 [am_P (3, 0, 0), am_I x1, am_I x2] M (am_Z w)) := by
  refine ⟨fun v M1 h => ?_, fun E k M1 w1 hm h => ?_⟩
  · rw [e131, h, bk_v]
    exact b131_6
  · rcases c2 hm with ⟨rfl, rfl⟩ | ⟨rfl, rfl⟩
    · rw [e131, h, bk_e hd131_1]
      exact b131_8
    · rw [e131, h, bk_e hd131_3]
      exact b131_13
theorem hd132_1 : am_hd 132 3 1 = some (8, 3) := by decide +kernel
theorem hd132_2 : am_hd 132 3 2 = some (13, 3) := by decide +kernel
theorem h132 {x1 x2 : Int32} : hlp id [(1, 1), (2, 2)] w (am_ev d 80 [am_P (3, 0, 0), am_I x1, am_I x2] M (am_Z w)) (am_ev (d + 1) 132 [am_P (3, 0, 0), am_I x1, am_I x2] M (am_Z w)) := by
  refine ⟨fun v M1 h => ?_, fun E k M1 w1 hm h => ?_⟩
  · rw [e132, h, bk_v]
    exact b132_6
  · rcases c2 hm with ⟨rfl, rfl⟩ | ⟨rfl, rfl⟩
    · rw [e132, h, bk_e hd132_1]
      exact b132_8
    · rw [e132, h, bk_e hd132_2]
      exact b132_13
theorem hd133_1 : am_hd 133 2 1 = some (7, 2) := by decide +kernel
theorem hd133_3 : am_hd 133 2 3 = some (12, 2) := by decide +kernel
theorem h133 {x1 : Int32} : hlp id [(1, 1), (3, 2)] w (am_ev d 90 [am_P (3, 0, 0), am_I x1] M (am_Z w)) (am_ev (d + 1) 133 [am_P (3, 0, 0), am_I x1] M (am_Z w)) := by
  refine ⟨fun v M1 h => ?_, fun E k M1 w1 hm h => ?_⟩
  · rw [e133, h, bk_v]
    exact b133_5
  · rcases c2 hm with ⟨rfl, rfl⟩ | ⟨rfl, rfl⟩
    · rw [e133, h, bk_e hd133_1]
      exact b133_7
    · rw [e133, h, bk_e hd133_3]
      exact b133_12
theorem hd134_1 : am_hd 134 2 1 = some (7, 2) := by decide +kernel
theorem hd134_3 : am_hd 134 2 3 = some (12, 2) := by decide +kernel
theorem h134 {x1 : Int32} : hlp id [(1, 1), (3, 2)] w (am_ev d 91 [am_P (3, 0, 0), am_I x1] M (am_Z w)) (am_ev (d + 1) 134 [am_P (3, 0, 0), am_I x1] M (am_Z w)) := by
  refine ⟨fun v M1 h => ?_, fun E k M1 w1 hm h => ?_⟩
  · rw [e134, h, bk_v]
    exact b134_5
  · rcases c2 hm with ⟨rfl, rfl⟩ | ⟨rfl, rfl⟩
    · rw [e134, h, bk_e hd134_1]
      exact b134_7
    · rw [e134, h, bk_e hd134_3]
      exact b134_12
theorem hd135_3 : am_hd 135 2 3 = some (7, 2) := by decide +kernel
theorem h135 {x1 : Int32} : hlp id [(3, 1)] w (am_ev d 94 [am_P (3, 0, 0), am_I x1] M (am_Z w)) (am_ev (d + 1) 135 [am_P (3, 0, 0), am_I x1] M (am_Z w)) := by
  refine ⟨fun v M1 h => ?_, fun E k M1 w1 hm h => ?_⟩
  · rw [e135, h, bk_v]
    exact b135_5
  · obtain ⟨rfl, rfl⟩ := c1 hm
    rw [e135, h, bk_e hd135_3]
    exact b135_7
theorem hd136_4 : am_hd 136 2 4 = some (7, 2) := by decide +kernel
theorem h136 {x1 : Int32} : hlp id [(4, 1)] w (am_ev d 98 [am_P (3, 0, 0), am_I x1] M (am_Z w)) (am_ev (d + 1) 136 [am_P (3, 0, 0), am_I x1] M (am_Z w)) := by
  refine ⟨fun v M1 h => ?_, fun E k M1 w1 hm h => ?_⟩
  · rw [e136, h, bk_v]
    exact b136_5
  · obtain ⟨rfl, rfl⟩ := c1 hm
    rw [e136, h, bk_e hd136_4]
    exact b136_7
theorem hd137_2 : am_hd 137 1 2 = some (6, 1) := by decide +kernel
theorem hd137_0 : am_hd 137 1 0 = some (11, 1) := by decide +kernel
theorem h137 : hlp id [(2, 1), (0, 2)] w (am_ev d 99 [am_P (3, 0, 0)] M (am_Z w)) (am_ev (d + 1) 137 [am_P (3, 0, 0)] M (am_Z w)) := by
  refine ⟨fun v M1 h => ?_, fun E k M1 w1 hm h => ?_⟩
  · rw [e137, h, bk_v]
    exact b137_4
  · rcases c2 hm with ⟨rfl, rfl⟩ | ⟨rfl, rfl⟩
    · rw [e137, h, bk_e hd137_2]
      exact b137_6
    · rw [e137, h, bk_e hd137_0]
      exact b137_11
theorem hd138_2 : am_hd 138 2 2 = some (7, 2) := by decide +kernel
theorem hd138_3 : am_hd 138 2 3 = some (12, 2) := by decide +kernel
theorem h138 {x1 : Int32} : hlp id [(2, 1), (3, 2)] w (am_ev d 101 [am_P (3, 0, 0), am_I x1] M (am_Z w)) (am_ev (d + 1) 138 [am_P (3, 0, 0), am_I x1] M (am_Z w)) := by
  refine ⟨fun v M1 h => ?_, fun E k M1 w1 hm h => ?_⟩
  · rw [e138, h, bk_v]
    exact b138_5
  · rcases c2 hm with ⟨rfl, rfl⟩ | ⟨rfl, rfl⟩
    · rw [e138, h, bk_e hd138_2]
      exact b138_7
    · rw [e138, h, bk_e hd138_3]
      exact b138_12
theorem hd139_1 : am_hd 139 2 1 = some (7, 2) := by decide +kernel
theorem h139 {x1 : Int32} : hlp id [(1, 1)] w (am_ev d 102 [am_P (3, 0, 0), am_I x1] M (am_Z w)) (am_ev (d + 1) 139 [am_P (3, 0, 0), am_I x1] M (am_Z w)) := by
  refine ⟨fun v M1 h => ?_, fun E k M1 w1 hm h => ?_⟩
  · rw [e139, h, bk_v]
    exact b139_5
  · obtain ⟨rfl, rfl⟩ := c1 hm
    rw [e139, h, bk_e hd139_1]
    exact b139_7
theorem hd140_1 : am_hd 140 2 1 = some (7, 2) := by decide +kernel
theorem h140 {x1 : Int32} : hlp id [(1, 1)] w (am_ev d 105 [am_P (3, 0, 0), am_I x1] M (am_Z w)) (am_ev (d + 1) 140 [am_P (3, 0, 0), am_I x1] M (am_Z w)) := by
  refine ⟨fun v M1 h => ?_, fun E k M1 w1 hm h => ?_⟩
  · rw [e140, h, bk_v]
    exact b140_5
  · obtain ⟨rfl, rfl⟩ := c1 hm
    rw [e140, h, bk_e hd140_1]
    exact b140_7
theorem hd141_5 : am_hd 141 1 5 = some (6, 1) := by decide +kernel
theorem h141v {q : UInt32} {M1 : am_M} (h : am_ev d 81 [am_P (3, 0, 0)] M (am_Z w) = some (.inl (some (.inl (.float q))), M1, am_Z w)) : am_ev (d + 1) 141 [am_P (3, 0, 0)] M (am_Z w) = some (.inl (some (.inl (.float q))), M1, am_Z w) := by
  rw [e141, h, bk_v]
  exact b141_4
theorem h141e {M1 : am_M} {w1 : am_W4} (h : am_ev d 81 [am_P (3, 0, 0)] M (am_Z w) = some (.inr 5, M1, am_Z w1)) : am_ev (d + 1) 141 [am_P (3, 0, 0)] M (am_Z w) = some (.inl (some (.inl (.float (3296346112 : UInt32)))), M1, am_Z w1) := by
  rw [e141, h, bk_e hd141_5]
  exact b141_6
theorem hd142_5 : am_hd 142 1 5 = some (6, 1) := by decide +kernel
theorem h142v {q : UInt64} {M1 : am_M} (h : am_ev d 97 [am_P (3, 0, 0)] M (am_Z w) = some (.inl (some (.inl (.double q))), M1, am_Z w)) : am_ev (d + 1) 142 [am_P (3, 0, 0)] M (am_Z w) = some (.inl (some (.inl (.double q))), M1, am_Z w) := by
  rw [e142, h, bk_v]
  exact b142_4
theorem h142e {M1 : am_M} {w1 : am_W4} (h : am_ev d 97 [am_P (3, 0, 0)] M (am_Z w) = some (.inr 5, M1, am_Z w1)) : am_ev (d + 1) 142 [am_P (3, 0, 0)] M (am_Z w) = some (.inl (some (.inl (.double (13875388141788987392 : UInt64)))), M1, am_Z w1) := by
  rw [e142, h, bk_e hd142_5]
  exact b142_6
theorem hd143_2 : am_hd 143 2 2 = some (7, 2) := by decide +kernel
theorem h143 {x1 : Int32} : hlp id [(2, 1)] w (am_ev d 106 [am_P (3, 0, 0), am_I x1] M (am_Z w)) (am_ev (d + 1) 143 [am_P (3, 0, 0), am_I x1] M (am_Z w)) := by
  refine ⟨fun v M1 h => ?_, fun E k M1 w1 hm h => ?_⟩
  · rw [e143, h, bk_v]
    exact b143_5
  · obtain ⟨rfl, rfl⟩ := c1 hm
    rw [e143, h, bk_e hd143_2]
    exact b143_7
theorem hd144_4 : am_hd 144 1 4 = some (6, 1) := by decide +kernel
theorem h144 : hlp id [(4, 1)] w (am_ev d 107 [am_P (3, 0, 0)] M (am_Z w)) (am_ev (d + 1) 144 [am_P (3, 0, 0)] M (am_Z w)) := by
  refine ⟨fun v M1 h => ?_, fun E k M1 w1 hm h => ?_⟩
  · rw [e144, h, bk_v]
    exact b144_4
  · obtain ⟨rfl, rfl⟩ := c1 hm
    rw [e144, h, bk_e hd144_4]
    exact b144_6
theorem hd145_4 : am_hd 145 1 4 = some (6, 1) := by decide +kernel
theorem h145 : hlp id [(4, 1)] w (am_ev d 109 [am_P (3, 0, 0)] M (am_Z w)) (am_ev (d + 1) 145 [am_P (3, 0, 0)] M (am_Z w)) := by
  refine ⟨fun v M1 h => ?_, fun E k M1 w1 hm h => ?_⟩
  · rw [e145, h, bk_v]
    exact b145_4
  · obtain ⟨rfl, rfl⟩ := c1 hm
    rw [e145, h, bk_e hd145_4]
    exact b145_6
theorem hd146_1 : am_hd 146 3 1 = some (16, 3) := by decide +kernel
theorem hd146_3 : am_hd 146 3 3 = some (21, 3) := by decide +kernel
theorem h146 {x1 x2 : Int32} : hlp (fun v => if v = 0 then 0 else 1) [(1, 1), (3, 2)] w (am_ev d 79 [am_P (3, 0, 0), am_I x1, am_I x2] M (am_Z w)) (am_ev (d + 1) 146 [am_P (3, 0, 0), am_I x1, am_I x2] M (am_Z w)) := by
  refine ⟨fun v M1 h => ?_, fun E k M1 w1 hm h => ?_⟩
  · rw [e146, h, bk_v]
    refine b146_6.trans ?_
    dsimp only
    by_cases hv : v = 0
    · rw [if_pos hv, if_pos hv]; rfl
    · rw [if_neg hv, if_neg hv]; rfl
  · rcases c2 hm with ⟨rfl, rfl⟩ | ⟨rfl, rfl⟩
    · rw [e146, h, bk_e hd146_1]
      exact b146_16
    · rw [e146, h, bk_e hd146_3]
      exact b146_21
end Khe
