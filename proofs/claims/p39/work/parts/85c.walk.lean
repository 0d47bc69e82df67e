/-! SOUNDNESS: the walk -/
section AmSound
variable {p : Program} {l : Launch} {e : Env} {R : Room} {s : State} {m : MethodId} {args : Array Value} {below : List Frame} {meth : Method} {c : Code} {Q : State → Prop} {G : am_Γ} {z : Nat} {X0 : am_X} {call : Nat → List am_V → am_M → am_X → Option am_R} {pc : Nat} {ls : am_S} {st : List am_V} {M : am_M} {X : am_X}
/-- an instruction that returns -/
def am_isR : Instr → Bool := fun i => match i with
  | .return_ | .ireturn | .areturn | .freturn | .dreturn | .lreturn => true
  | _ => false
/-- THE WALK: from where the abstract machine comes to its end, the machine does -/
theorem am_walk {d : Nat} {r0 : am_R} {CG : am_Γ → Prop} (hz : z < 232) (hC : ∀ G, CG G → am_Cx p l s m args meth c G z ∧ am_Nc G s) (htab : am_hs z ≠ [] → c.exceptionTable.toList = tableOf (am_hh z)) (hcs : am_Cs l d) (hfr : d + 27 ≤ R.frames) (hlo : 31 * d + 751 ≤ R.locals)
    (hroom : r0.2.2.2.2.1 - X0.2.2.1 ≤ R.cells ∧ r0.2.2.2.2.2.1 - X0.2.2.2.1 ≤ R.slots)
    (hret : ∀ G, CG G → ∀ (i : Instr) (pc : Nat) (ls : am_S) (st : List am_V) (M : am_M) (X : am_X), am_cd z pc = some i → am_isR i = true → am_st (am_ev d) z i pc ls st M X = some (.inr r0) → am_Sm p l e R s m args below meth c Q G z X0 (pc, ls, st, M, X))
    (hnew : ∀ G, CG G → ∀ (ix E ic pc : Nat) (ls : am_S) (st : List am_V) (M : am_M) (X : am_X), am_cd z pc = some (.new ix) → am_nw (am_own z) ix = some (.inr (E, ic)) → am_le X0 X → am_st (am_ev d) z (.new ix) pc ls st M X = some (.inr r0) → am_Sm p l e R s m args below meth c Q G z X0 (pc, ls, st, M, X))
    (hthr : ∀ G, CG G → ∀ (pc E : Nat) (H : Heap) (locs : List Loc) (lsc : Array Slot) (rest : List Value) (q : Addr) (ce : Cell), r0.1 = .inr E → am_tr z = true → am_HR G r0.2.1 r0.2.2 H → va_S (am_A G) s.heap H locs → H[q]? = some ce → ce.vm = .none → s.vm.findClass (am_en E) = some ce.cls → vx_W p l e R s m args below meth c H locs (r0.2.2.2.2.1 - X0.2.2.1) (r0.2.2.2.2.2.1 - X0.2.2.2.1) Q (F0 m pc lsc rest) q)
    (hrs : ∀ G, CG G → ∀ (ix ci pc : Nat) (ls : am_S) (M : am_M) (X : am_X), z = 227 → X.2.1 = none → am_le X0 X → (∀ G', CG G' → am_Sm p l e R s m args below meth c Q G' z X0 (pc, am_wl ls, [], am_wp M, (fun _ _ => none, some 0, X.2.2.1, X.2.2.2.1, none, none))) → am_Sm p l e R s m args below meth c Q G z X0 (pc, ls, [], M, X))
    (hlg : ∀ G, CG G → ∀ (pc : Nat) (ls : am_S) (M : am_M) (X : am_X), am_cd z pc = some (.newarray .long) → z = 227 → X.2.1 = none → X.2.2.2.2.1 = none → X.2.2.2.2.2 = none → am_le X0 X → X.2.2.1 + 1 - X0.2.2.1 ≤ R.cells ∧ X.2.2.2.1 + 13 - X0.2.2.2.1 ≤ R.slots → (∀ G', CG G' → am_Sm p l e R s m args below meth c Q G' z X0 (pc + 2, am_wr ls, [.inr (some (1, 0, 0))], M, (X.1, none, X.2.2.1 + 1, X.2.2.2.1 + 13, some (fun _ => 0), none))) → am_Sm p l e R s m args below meth c Q G z X0 (pc, ls, [.inl (.int 13)], M, X)) :
    ∀ (n : Nat) (G : am_Γ) (_ : CG G) (pc : Nat) (ls : am_S) (st : List am_V) (M : am_M) (X : am_X), am_le X0 X → am_run (am_ev d) z n pc ls st M X = some r0 → am_Sm p l e R s m args below meth c Q G z X0 (pc, ls, st, M, X)
  | 0, _, _, _, _, _, _, _, _, h => by cases h
  | n + 1, G, hG, pc, ls, st, M, X, hle, h => by
    obtain ⟨C, hnc⟩ := hC G hG
    unfold am_run at h
    cases hcd : am_cd z pc with
    | none => rw [hcd] at h; cases h
    | some i =>
      rw [hcd] at h
      dsimp only at h
      rw [am_ex_st] at h
      cases hs : am_st (am_ev d) z i pc ls st M X with
      | none => rw [hs] at h; cases h
      | some q =>
        rw [hs] at h
        have hev : ∀ y as M X r, am_ev d y as M X = some r → am_le X r.2.2 := fun y as M X r => am_ev_le d y as M X r
        have hnx := am_st_nx hev hs
        have hle2 := am_le_trans hle hnx.1
        have hqG : ∀ G', CG G' → ∀ w, q = .inl w → am_Sm p l e R s m args below meth c Q G' z X0 w := by
          rintro G' hG' ⟨a1, b1, c1, d1, e1⟩ rfl
          exact am_walk hz hC htab hcs hfr hlo hroom hret hnew hthr hrs hlg n G' hG' a1 b1 c1 d1 e1 hle2 h
        have hq := hqG G hG
        have hq2 : ∀ r', q = .inr r' → r' = r0 := by
          rintro r' rfl
          exact Option.some.inj h
        have hrm : (am_nx q).2.2.1 - X0.2.2.1 ≤ R.cells ∧ (am_nx q).2.2.2.1 - X0.2.2.2.1 ≤ R.slots := by
          cases q with
          | inl w =>
            obtain ⟨a1, b1, c1, d1, e1⟩ := w
            obtain ⟨k1, k2⟩ := am_run_le hev n a1 b1 c1 d1 e1 r0 h
            dsimp only [am_nx]
            omega
          | inr r' =>
            cases hq2 r' rfl
            exact hroom
        by_cases hF : am_isF i = true
        · by_cases hR : am_isR i = true
          · cases q with
            | inr r' =>
              cases hq2 r' rfl
              exact hret G hG i pc ls st M X hcd hR hs
            | inl w =>
              exfalso
              unfold am_isR at hR
              split at hR
              all_goals first | (cases hR; done) | (unfold am_st am_ex at hs; dsimp only at hs; split at hs <;> first | (cases hs; done) | (obtain ⟨_, hs⟩ := am_if_i hs; cases hs; done))
          · unfold am_isF at hF
            split at hF
            all_goals first | (exact absurd rfl hR) | skip
            · rename_i ix
              obtain ⟨w, rfl⟩ := am_ldcw_nx hs
              exact am_s_ldcw C hnc htab hcs hfr hlo hle hcd hs hrm (hq w rfl)
            · dsimp only [am_st, am_ex] at hs
              obtain ⟨x, st1, rfl, hs⟩ := am_popI_i hs
              obtain ⟨⟨rfl, g1, g2, g3, g4, g5⟩, hs2⟩ := am_if_i hs
              cases hs2
              subst g5
              exact hlg G hG pc ls M X hcd g1 g2 g3 g4 hle hrm (fun G' hG' => hqG G' hG' _ rfl)
            · rename_i ix
              cases hw : am_nw (am_own z) ix with
              | none =>
                have hs2 := hs
                dsimp only [am_st, am_ex] at hs2
                rw [hw] at hs2
                dsimp only at hs2
                exact am_s_ca C hnc hcs hfr hlo hle hcd hs2 hrm hq
              | some o =>
                cases o with
                | inl ci =>
                  by_cases hn0 : z = 227 ∧ X.2.1 = none ∧ st = []
                  · have hs2 := hs
                    dsimp only [am_st, am_ex] at hs2
                    rw [hw] at hs2
                    dsimp only at hs2
                    rw [if_pos hn0] at hs2
                    cases hs2
                    obtain ⟨g1, g2, rfl⟩ := hn0
                    exact hrs G hG ix ci pc ls M X g1 g2 hle (fun G' hG' => hqG G' hG' _ rfl)
                  · cases q with
                    | inl w => exact am_s_new C hn0 hw (am_dg hcd rfl (by decide)) hs hle hrm (hq w rfl)
                    | inr r' =>
                      dsimp only [am_st, am_ex] at hs
                      rw [hw] at hs
                      dsimp only at hs
                      rw [if_neg hn0] at hs
                      obtain ⟨_, _, _, _, _, _, _, hs⟩ := am_nu_i hs
                      cases hs
                | inr o =>
                  obtain ⟨E, ic⟩ := o
                  cases q with
                  | inl w =>
                    simp only [am_st, am_ex, hw] at hs
                    obtain ⟨_, hs⟩ := am_if_i hs
                    obtain ⟨_, hs⟩ := am_sm_i hs
                    cases hs
                  | inr r' =>
                    cases hq2 r' rfl
                    exact hnew G hG ix E ic pc ls st M X hcd hw hle hs
            · rename_i ix
              exact am_s_iv hz C hnc htab hcs hfr hlo hle (hthr G hG pc) hcd hs hrm hq hq2
            · rename_i ix
              cases hm : am_ml (am_own z) ix with
              | none => simp only [am_st, am_ex, hm] at hs; cases hs
              | some o =>
                obtain ⟨k, y⟩ := o
                have hs2 := hs
                dsimp only [am_st, am_ex] at hs2
                rw [hm] at hs2
                split at hs2
                · rename_i e; cases e; exact am_s_is hz C hnc htab hcs hfr hlo hle (hthr G hG pc) hcd hm (Or.inl rfl) hs2 hrm hq hq2
                · rename_i e; cases e; exact am_s_is hz C hnc htab hcs hfr hlo hle (hthr G hG pc) hcd hm (Or.inr rfl) hs2 hrm hq hq2
                · rename_i e
                  cases e
                  cases q with
                  | inl w => exact am_s_min C hm (am_dg hcd rfl (by decide)) (by omega) (by obtain ⟨k1, k2⟩ := hnx.1; obtain ⟨k3, k4⟩ := hrm; constructor <;> omega) hs (hq w rfl)
                  | inr r' =>
                    simp only [am_inv] at hs2
                    obtain ⟨_, _, _, hs2⟩ := am_popI_i hs2
                    obtain ⟨_, _, _, hs2⟩ := am_popI_i hs2
                    obtain ⟨_, hs2⟩ := am_sm_i hs2
                    cases hs2
                · rename_i e
                  cases e
                  cases q with
                  | inl w => exact am_s_copy C hm (am_dg hcd rfl (by decide)) (by omega) hs (hq w rfl)
                  | inr r' =>
                    simp only [am_inv] at hs2
                    obtain ⟨_, _, _, hs2⟩ := am_popI_i hs2
                    obtain ⟨_, _, _, hs2⟩ := am_popI_i hs2
                    obtain ⟨_, _, _, hs2⟩ := am_popP_i hs2
                    obtain ⟨_, _, _, hs2⟩ := am_popI_i hs2
                    obtain ⟨_, _, _, hs2⟩ := am_popP_i hs2
                    obtain ⟨_, hs2⟩ := am_sm_i hs2
                    obtain ⟨_, hs2⟩ := am_if_i hs2
                    cases hs2
                · rename_i e
                  cases e
                  exact am_s_dbl C hnc hm (am_dg hcd rfl (by decide)) (by omega) hle hs2 hrm hq
                · rename_i e
                  cases e
                  exact am_s_flt C hnc hm (am_dg hcd rfl (by decide)) (by omega) hle hs2 hrm hq
                · cases hs2
            · rename_i ix
              cases hm : am_ml (am_own z) ix with
              | none => simp only [am_st, am_ex, hm] at hs; cases hs
              | some o =>
                obtain ⟨k, y⟩ := o
                have hs2 := hs
                dsimp only [am_st, am_ex] at hs2
                rw [hm] at hs2
                split at hs2
                · rename_i e; cases e; exact am_s_ii hz C hnc htab hcs hfr hlo hle (hthr G hG pc) hcd hm (Or.inl rfl) hs2 hrm hq hq2
                · rename_i e; cases e; exact am_s_ii hz C hnc htab hcs hfr hlo hle (hthr G hG pc) hcd hm (Or.inr rfl) hs2 hrm hq hq2
                · rename_i e
                  cases e
                  cases q with
                  | inl w => exact am_s_obj C hm (am_dg hcd rfl (by decide)) (by omega) hs (hq w rfl)
                  | inr r' =>
                    simp only [am_inv] at hs2
                    obtain ⟨_, _, _, hs2⟩ := am_popP_i hs2
                    obtain ⟨_, hs2⟩ := am_sm_i hs2
                    cases hs2
                · cases hs2
            · cases hF
        · have hF0 : am_isF i = false := Bool.eq_false_iff.mpr hF
          obtain ⟨w, rfl⟩ := hnx.2 hF0
          exact am_sim C hcd hF0 hs hle hrm (hq w rfl)
theorem am_sl1 : ∀ (vs : List Value), (∀ v ∈ vs, v.category = 1) → (lg_sl vs).length = vs.length ∧ ∀ i, lv_args i vs = (vs.zipIdx i).map (fun q => (q.2, q.1))
  | [], _ => ⟨rfl, fun _ => rfl⟩
  | v :: vs, h => by
    obtain ⟨h1, h2⟩ := am_sl1 vs (fun w hw => h w (List.mem_cons_of_mem _ hw))
    have hv := h v List.mem_cons_self
    refine ⟨?_, fun i => ?_⟩
    · rw [show lg_sl (v :: vs) = .val v :: lg_sl vs by simp [lg_sl, hv], List.length_cons, List.length_cons, h1]
    · rw [lv_args, if_neg (by rw [hv]; decide), h2 (i + 1)]
      rfl
theorem am_entry {as : List am_V} {n : Nat} (h1 : ∀ v ∈ as, am_one v) (hn : as.length ≤ n) : ∃ lsc : Array Slot, (∀ m : MethodId, entryFrame m (as.map (am_tv G)).toArray n = F0 m 0 lsc []) ∧ am_lv G n (as.map some ++ List.replicate (n - as.length) none) lsc := by
  have hc : ∀ v ∈ as.map (am_tv G), v.category = 1 := by
    intro v hv
    obtain ⟨w, hw, rfl⟩ := List.mem_map.mp hv
    exact (h1 w hw).cat
  obtain ⟨e1, e2⟩ := am_sl1 _ hc
  rw [List.length_map] at e1
  have hl := lv_entry (as.map (am_tv G)) (n := n) (by rw [e1]; exact hn)
  refine ⟨_, fun m => lg_entry_eq m _ n, ⟨hl.1, hl.2.1, fun q hq => hl.2.2 q ?_⟩, by simp; omega⟩
  obtain ⟨k, v, hk, rfl⟩ := am_ll_mem.mp hq
  rw [e2 0]
  have hk2 : as[k]? = some v := by
    rcases Nat.lt_or_ge k as.length with h | h
    · rw [List.getElem?_append_left (by simpa using h), List.getElem?_map] at hk
      cases ha : as[k]? with
      | none => rw [ha] at hk; cases hk
      | some w => rw [ha] at hk; cases hk; rfl
    · rw [List.getElem?_append_right (by simpa using h), List.length_map, List.getElem?_replicate] at hk
      split at hk <;> cases hk
  refine List.mem_map.mpr ⟨(am_tv G v, 0 + k), ?_, rfl⟩
  refine List.mem_of_getElem? (i := k) ?_
  rw [List.getElem?_zipIdx, List.getElem?_map, hk2]
  rfl
theorem am_nar_c {x : Int32} (h : am_pc 2 x = true) : narrow .char (.int x) = .int x := by
  simp only [am_pc, decide_eq_true_eq] at h
  have h1 := Int32.le_iff_toInt_le.mp h.1
  have h2 := Int32.le_iff_toInt_le.mp h.2
  have h3 := lg_i2c_word (v := x) (by simpa using h1) (by have : (65535 : Int32).toInt = 65535 := by decide
                                                          omega)
  rw [lg_i2c_nf] at h3
  simp only [narrow, h3]
theorem am_hd_st {d : Nat} {i : Instr} {r0 : am_R} (hcd : am_cd z pc = some i) (hR : am_isR i = true) (h : am_st (am_ev d) z i pc ls st M X = some (.inr r0)) (hz : am_zk z) {X1 : am_X} (hX1 : X1 = r0.2.2) (C : am_Cx p l s m args meth c G z) (hret : meth.sig.returnType = am_ret z) :
    am_Sm p l e R s m args below meth c (vx_MQ below (am_Qr G r0) (am_XCr G r0) args s (r0.2.2.2.2.1 - X0.2.2.1) (r0.2.2.2.2.2.1 - X0.2.2.2.1) (am_A G)) G z X0 (pc, ls, st, M, X) := by
  obtain ⟨hx, hb, hml, hown, hts, hK, hU, hN, hX, hbb, hlk, hst, hini⟩ := C
  obtain ⟨t0, t1, t2, t3, t4, t5, t6, t7⟩ := am_ret_facts hz
  intro H locs lsc hH hS hl
  dsimp only at hH hl ⊢
  have key : ∀ v : Option am_V, r0 = (.inl v, M, X) → ∀ t : State, t.heap = H → am_Qr G r0 args s (.returned (v.map (am_tv G))) t := by
    rintro v rfl t ht
    exact ⟨v, rfl, rfl, by rw [ht]; exact hH, hS.F ht⟩
  unfold am_isR at hR
  split at hR
  · dsimp only [am_st, am_ex] at h
    split at h
    · rename_i e0
      have e := Option.some.inj h
      have e := Sum.inr.inj e
      have k := key _ e.symm
      subst e
      exact vx_ret (W.vret hx hb (hret.trans (t0 e0)) (fun t ht _ => k t ht) hS.2.2 (am_dg hcd rfl (by decide)))
    · cases h
  · dsimp only [am_st, am_ex] at h
    split at h
    · rename_i x e0
      have e := Option.some.inj h
      have e := Sum.inr.inj e
      have k := key _ e.symm
      subst e
      exact vx_ret (W.iret hx hb (hret.trans (t1 e0)) (fun t ht _ => k t ht) hS.2.2 (am_dg hcd rfl (by decide)))
    · rename_i x e0
      obtain ⟨hp, h⟩ := am_if_i h
      have e := Option.some.inj h
      have e := Sum.inr.inj e
      have k := key _ e.symm
      subst e
      refine vx_ret (W.zret hx hb (hret.trans (t2 e0)) ?_ (fun t ht _ => k t ht) hS.2.2 (am_dg hcd rfl (by decide)))
      simp only [am_pc, Bool.or_eq_true, beq_iff_eq] at hp
      rcases hp with rfl | rfl <;> decide
    · rename_i x e0
      obtain ⟨hp, h⟩ := am_if_i h
      have e := Option.some.inj h
      have e := Sum.inr.inj e
      have k := key _ e.symm
      subst e
      refine vx_ret (W.zret hx hb (hret.trans (t3 e0)) ?_ (fun t ht _ => k t ht) hS.2.2 (am_dg hcd rfl (by decide)))
      exact am_nar_c hp
    · cases h
  · dsimp only [am_st, am_ex] at h
    split at h
    · rename_i l0 e0
      have e := Option.some.inj h
      have e := Sum.inr.inj e
      have k := key _ e.symm
      subst e
      obtain ⟨n, e6⟩ := t6 e0
      exact vx_ret (W.aret hx hb (hret.trans e6) (Or.inl ⟨n, rfl⟩) (Or.inr ⟨_, rfl⟩) (fun t ht _ => k t ht) hS.2.2 (am_dg hcd rfl (by decide)))
    · cases h
  · dsimp only [am_st, am_ex] at h
    split at h
    · rename_i x e0
      have e := Option.some.inj h
      have e := Sum.inr.inj e
      have k := key _ e.symm
      subst e
      exact vx_ret (W.fret hx hb (hret.trans (t4 e0)) (fun t ht _ => k t ht) hS.2.2 (am_dg hcd rfl (by decide)))
    · cases h
  · dsimp only [am_st, am_ex] at h
    split at h
    · rename_i x e0
      have e := Option.some.inj h
      have e := Sum.inr.inj e
      have k := key _ e.symm
      subst e
      exact vx_ret (W.dret hx hb (hret.trans (t5 e0)) (fun t ht _ => k t ht) hS.2.2 (am_dg hcd rfl (by decide)))
    · cases h
  · dsimp only [am_st, am_ex] at h
    split at h
    · rename_i x e0
      have e := Option.some.inj h
      have e := Sum.inr.inj e
      have k := key _ e.symm
      subst e
      exact vx_ret (W.lret hx hb (hret.trans (t7 e0)) (fun t ht _ => k t ht) hS.2.2 (am_dg hcd rfl (by decide)))
    · cases h
  · cases hR
theorem am_ex_ok {E ic : Nat} (h : (E, ic) ∈ am_eic) : ((Cond.classLink (am_cR 8) 0 (am_en E) :: Cond.initialized (am_en E) :: vx_at0 (am_cR 8) ic (am_en E) am_xn).all vx_ot && (Cond.initialized (am_en E) :: vx_at0 (am_cR 8) ic (am_en E) am_xn).all (fun w => decide (w ∈ am_W))) = true := by
  simp only [am_eic, List.mem_cons, Prod.mk.injEq, List.not_mem_nil, or_false] at h
  rcases h with ⟨rfl, rfl⟩ | ⟨rfl, rfl⟩ | ⟨rfl, rfl⟩ | ⟨rfl, rfl⟩ | ⟨rfl, rfl⟩ | ⟨rfl, rfl⟩
  · exact am_ex_ok0
  · exact am_ex_ok1
  · exact am_ex_ok2
  · exact am_ex_ok3
  · exact am_ex_ok4
  · exact am_ex_ok5
theorem am_en_fit : ∀ E, E < 6 → Bundle.fit (am_en E) = true := by decide +kernel
theorem am_xn_fit : ∀ n ∈ am_xn, Bundle.fit n = true := by decide +kernel
theorem am_hh_nil {z : Nat} (h : am_tr z = true) : tableOf (am_hh z) = [] := by
  unfold am_tr at h
  rw [List.isEmpty_iff.mp h]
  rfl
set_option maxHeartbeats 4000000 in
theorem am_new_st {d ix E ic : Nat} {r0 : am_R} (C : am_Cx p l s m args meth c G z) (hnw : am_nw (am_own z) ix = some (.inr (E, ic))) (hcd : am_cd z pc = some (.new ix)) (hle : am_le X0 X) (h : am_st (am_ev d) z (.new ix) pc ls st M X = some (.inr r0)) (hfr : 27 ≤ R.frames) (hlo : 751 ≤ R.locals)
    (hroom : r0.2.2.2.2.1 - X0.2.2.1 ≤ R.cells ∧ r0.2.2.2.2.2.1 - X0.2.2.2.1 ≤ R.slots) (htab : c.exceptionTable.toList = tableOf (am_hh z)) :
    am_Sm p l e R s m args below meth c (vx_MQ below (am_Qr G r0) (am_XCr G r0) args s (r0.2.2.2.2.1 - X0.2.2.1) (r0.2.2.2.2.2.1 - X0.2.2.2.1) (am_A G)) G z X0 (pc, ls, st, M, X) := by
  obtain ⟨i, hi⟩ := am_al2_in am_nw_ok _ (am_look_in hnw)
  simp only [am_nww, Bool.and_eq_true, decide_eq_true_eq] at hi
  obtain ⟨-, ⟨⟨hi1, hE⟩, hic⟩, hown8⟩ := hi
  obtain ⟨hx, hb, hml, hown, hts, hK, hU, hN, hX, hbb, hlk, hst, hini⟩ := C
  have hok := am_ex_ok hic
  rw [Bool.and_eq_true] at hok
  obtain ⟨ok1, ok2⟩ := hok
  have ok1 := List.all_eq_true.mp ok1
  have ok2 := List.all_eq_true.mp ok2
  dsimp only [am_st, am_ex] at h
  rw [hnw] at h
  dsimp only at h
  obtain ⟨⟨h1, h2, h3, h4, h5⟩, h6⟩ := am_if_i h
  obtain ⟨hs4, h7⟩ := am_sm_i h6
  have e := Sum.inr.inj (Option.some.inj h7)
  subst e
  have hc8 := am_cat (G := G) st hs4
  obtain ⟨g1, g2⟩ := hle
  dsimp only [am_bump] at hroom ⊢
  intro H locs lsc hH hS hl
  dsimp only at hH hl ⊢
  rw [hown8] at hown hi1
  refine vx_throw0 (cc := am_by z) (A := am_A G) (names := am_xn) (ik := ix) (ic := ic) (cls := am_en E) (own := am_cR 8) hx hb hst hown (am_en_fit E hE) am_xn_fit (hts _ (am_at_in hi1)) (hts _ (of_decide_eq_true (ok2 _ List.mem_cons_self))) (fun w hw => hts _ (of_decide_eq_true (ok2 _ (List.mem_cons_of_mem _ hw)))) ?_ hU hN hS (by rw [hml]; exact hl.1.1) (am_dg hcd rfl (by decide)) (am_dg h1 rfl (by decide)) (am_dg h2 rfl (by decide)) (am_dg h3 rfl (by decide)) ?_ ?_ ?_ ?_ ?_ hlk ?_ hS.2.2 ?_ ?_
  · intro w hw
    rcases List.mem_cons.mp hw with rfl | hw
    · have := ok1 (Cond.classLink (am_cR 8) 0 (am_en E)) List.mem_cons_self
      exact this
    · exact ok1 _ (List.mem_cons_of_mem _ hw)
  · intro x hx0
    rw [htab, am_hh_nil h5] at hx0
    cases hx0
  · show 2 + 3 < R.frames; omega
  · show _ + (13 * (2 + 1) + 42) ≤ R.locals; omega
  · omega
  · omega
  · intro t hal hsz ho
    refine ⟨E, rfl, rfl, am_HR.bump hH h4 hsz ho rfl h4 rfl, ⟨Nat.le_trans hS.1 hsz, fun q hq hA => ?_⟩⟩
    rw [ho q (Nat.lt_of_lt_of_le hq hS.1)]
    exact hS.2.1 q hq hA
  · omega
  · omega
set_option maxHeartbeats 4000000 in
theorem am_sound (l : Launch) (hlt : l.stackTraces = false) : ∀ d, am_Cs l d
  | 0, _, _, _, _, _, _, _, _, h => by cases h
  | d + 1, y, hy, as, M, X, r, hone, hlen, h => by
    intro G
    obtain ⟨f1, f2, f3, f4, f5, f6, f7, f8, f9, f10⟩ := am_z_facts hy
    rw [am_ev_eq, am_rn_iff] at h
    obtain ⟨n, h⟩ := h
    have main : ∀ (p : Program) (e : Env) (s : State) (m : MethodId) (args : Array Value) (below : List Frame) (meth : Method) (c : Code), am_Cx p l s m args meth c G y → am_Nc G s → c.exceptionTable.toList = tableOf (am_hh y) → meth.sig.returnType = am_ret y → args = (as.map (am_tv G)).toArray → am_HR G M X s.heap →
        W p l e (am_rm (d + 1) (am_dc X r) (am_ds X r)) s m args below meth c s.heap [] 0 0 (vx_MQ below (am_Qr G r) (am_XCr G r) args s (am_dc X r) (am_ds X r) (am_A G)) (entryFrame m args (am_mL y)) := by
      intro p e s m args below meth c C hnc htab hret ha hH
      obtain ⟨lsc, hef, hlv⟩ := am_entry (G := G) hone hlen
      have hw := am_walk (R := am_rm (d + 1) (am_dc X r) (am_ds X r)) (e := e) (below := below) (Q := vx_MQ below (am_Qr G r) (am_XCr G r) args s (am_dc X r) (am_ds X r) (am_A G)) (X0 := X) (r0 := r) (CG := fun G' => G' = G) (by omega) (fun G' hG' => by rw [hG']; exact ⟨C, hnc⟩) (fun _ => htab) (am_sound l hlt d) (by show d + 27 ≤ d + 1 + 26; omega) (by show 31 * d + 751 ≤ 31 * (d + 1) + 720; omega) ⟨Nat.le_refl _, Nat.le_refl _⟩
        (fun G' hG' i pc ls st M X hcd hR hs => by rw [hG']; exact am_hd_st hcd hR hs hy rfl C hret)
        (fun G' hG' ix E ic pc ls st M X hcd hnw hle hs => by rw [hG']; exact am_new_st C hnw hcd hle hs (by show 27 ≤ d + 1 + 26; omega) (by show 751 ≤ 31 * (d + 1) + 720; omega) ⟨Nat.le_refl _, Nat.le_refl _⟩ htab)
        (fun G' hG' pc E H locs lsc rest q ce hE htr kH kS c1 c2 c3 => by
          subst hG'
          exact vx_outP C.2.2.2.1 C.2.2.2.2.2.2.2.2.2.2.1 (fun x hx0 => by rw [htab, am_hh_nil htr] at hx0; cases hx0) c1 c2 c3 (fun t ht hal => ⟨E, hE, rfl, by rw [ht]; exact kH, kS.F ht⟩) kS.2.2 (Nat.le_refl _) (Nat.le_refl _))
        (fun G' hG' ix ci pc ls M X h227 => absurd h227 hy.2)
        (fun G' hG' pc ls M X _ h227 => absurd h227 hy.2)
        n G rfl 0 (am_en0 y as) [] M X (am_le_refl X) h
      have hw2 := hw s.heap [] lsc hH va_S.rf hlv
      dsimp only at hw2
      rw [ha, hef m]
      rw [ha] at hw2
      exact W.cs (by omega) (by omega) hw2
    by_cases ht : am_tr y = true
    · refine vx_ofW (ws' := am_W) (cc := am_by y) (maxL := am_mL y) (ret := am_ret y) f6 (by unfold am_ws am_cw; rw [if_pos ht]) ?_
      intro p e s m args below meth c s₁ B hml htab0 hP
      obtain ⟨ha, hH, hK, hU, hN, hX, hbb, hnc⟩ := hP
      refine main p e s m args below meth c ⟨B.exec, B.bytes, hml, by rw [← f3]; exact findClass_of_methodNamed B.named, fun w hw => atoms_spec (ws := am_ws y) B.pre w (List.mem_cons_of_mem _ hw), hK, hU, hN, hX, hbb, B.notSynchronized, hlt, fun hin => ?_⟩ hnc ?_ B.returns ha hH
      · rw [f8] at hin
        rw [(name_of_methodNamed B.named B.method).1]
        exact (f2.2.2.1 (by simpa using hin)).2
      · rw [am_hh_nil ht]
        cases he : c.exceptionTable.toList with
        | nil => rfl
        | cons a b => exact absurd (htab0 a (by rw [he]; exact List.mem_cons_self)) id
    · refine vx_ofWH (ws' := am_W) (cc := am_by y) (maxL := am_mL y) (ret := am_ret y) (hh := am_hh y) f6 (by unfold am_ws am_cw; rw [if_neg ht]) ?_
      intro p e s m args below meth c s₁ B hml hP
      obtain ⟨ha, hH, hK, hU, hN, hX, hbb, hnc⟩ := hP
      have hcw : Cond.codeWith (am_y y) (am_by y) (am_mL y) (am_ret y) (am_hh y) ∈ am_ws y := by unfold am_ws am_cw; rw [if_neg ht]; exact List.mem_cons_self
      refine main p e s m args below meth c ⟨B.exec, B.bytes, hml, by rw [← f3]; exact findClass_of_methodNamed B.named, fun w hw => atoms_spec (ws := am_ws y) B.pre w (List.mem_cons_of_mem _ hw), hK, hU, hN, hX, hbb, B.notSynchronized, hlt, fun hin => ?_⟩ hnc (vx_table (x := am_y y) B (atoms_spec (ws := am_ws y) B.pre _ hcw)) B.returns ha hH
      rw [f8] at hin
      rw [(name_of_methodNamed B.named B.method).1]
      exact (f2.2.2.1 (by simpa using hin)).2
end AmSound
