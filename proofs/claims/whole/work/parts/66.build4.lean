/-! the class: a level is cut -/
theorem segs_nil (es : List Row) (f i : Nat) : segs es 0 f i = [] := rfl
section JD3
variable {b : Nat} {l : List Row} {X : List (List Nd)} {h : jj_H} {Q : Value → jj_H → Prop}
theorem c_cutLevel {es : List Row} {fb : Nat → Nat × Nat} {wa : Nat} (B : bT h b) (A : nA h b) (T : tbX (Sw b) h b (b + 3) (b + 4) l X) (R : rwO h (b + 1) (b + 2) l) (E : esO h wa es) (hwa : wa ≠ b + 4) (C : fbC fb es.length l.length) (h00 : es.length ≠ 0 → (fb 0).1 = 0) (hb : X.length ≠ 0 → ∀ e x, es[e]? = some x → x.2.2.2 = nI (fb e).2) (h0 : X.length = 0 → fb = fun j => (j, 1)) (cap : (flat X).length + (levN X.length es fb).length ≤ 202) (hX : X.length < 8) (H : ∀ h', bT h' b → nA h' b → tbX (Sw b) h' b (b + 3) (b + 4) l (X ++ [levN X.length es fb]) → rwO h' (b + 1) (b + 2) l → bF h h' b (b + 4) → Q (.int 0) h') : jj_C mX8_cutLevel 202 1818 [.ref b, .ref wa, .int (nI es.length)] h Q := by
  refine jV_C (by decide +kernel) fun V => ?_
  have hes := E.2.2.2.1
  refine EX8_cutLevel _ _ _ fun d => ⟨B.1, c_beginLevel B A T hX fun h1 A1 B1 R1' T1 F1 => ?_⟩
  have R1 := R1' _ _ (by omega) R
  have E1 := F1.es V A E hwa hwa
  have fin : ∀ bc bs fr rl_ f h2, bT h2 b → nA h2 b → tbX (Sw b) h2 b (b + 3) (b + 4) l (X ++ [levN X.length es fb]) → rwO h2 (b + 1) (b + 2) l → bF h h2 b (b + 4) → jj_WP d mX8_cutLevel bc bs 35 [(0, .ref b), (1, .ref wa), (2, .int (nI es.length)), (3, .int (nI X.length)), (4, .int f), (5, .int fr), (6, .int rl_), (7, .int (nI es.length))] [] h2 Q := by
    intro bc bs fr rl_ f h2 B2 A2 T2 R2 F2
    exact VX8_cutLevel_35 _ _ _ _ _ _ _ _ ⟨fun _ => H h2 B2 A2 T2 R2 F2, fun c => absurd (Int32.le_refl _) c⟩
  simp (disch := omega) only [jj_vi, q_clamp, q_in, nI_leI, nI_ltI, nI_eq, ql_0, qL_0, qt_0, qT_0, qe_0, qc_0, qi_0, ql_1, qL_1, qt_1, qT_1, qe_1, qc_1, qi_1, ql_2, qL_2, qt_2, qT_2, qe_2, qc_2, qi_2, ql_3, qL_3, qt_3, qT_3, qe_3, qc_3, qi_3, ql_4, qL_4, qt_4, qT_4, qe_4, qc_4, qi_4, ql_6, qL_6, qt_6, qT_6, qe_6, qc_6, qi_6, ql_8, qL_8, qt_8, qT_8, qe_8, qc_8, qi_8, ql_10, qL_10, qt_10, qT_10, qe_10, qc_10, qi_10, ql_24, qL_24, qt_24, qT_24, qe_24, qc_24, qi_24, ql_60, qL_60, qt_60, qT_60, qe_60, qc_60, qi_60, ql_100, qL_100, qt_100, qT_100, qe_100, qc_100, qi_100, ql_200, qL_200, qt_200, qT_200, qe_200, qc_200, qi_200, ql_400, qL_400, qt_400, qT_400, qe_400, qc_400, qi_400, ql_600, qL_600, qt_600, qT_600, qe_600, qc_600, qi_600, ql_900, qL_900, qt_900, qT_900, qe_900, qc_900, qi_900, ql_1200, qL_1200, qt_1200, qT_1200, qe_1200, qc_1200, qi_1200, ql_65536, qL_65536, qt_65536, qT_65536, qe_65536, qc_65536, qi_65536]
  refine ⟨fun hn => ?_, fun hn => ?_⟩
  · have loop : ∀ q i f P bc bs (h2 : jj_H) (fr : Int32), i + q = es.length → f ≤ i → i - f ≤ 9 → P ++ (segs es q f i).map (mkN X.length es fb) = levN X.length es fb → (f < es.length → fr = nI (fb f).1) → q ≤ bc → 9 * q ≤ bs → bT h2 b → nA h2 b → tbX (Sw b) h2 b (b + 3) (b + 4) l (X ++ [P]) → rwO h2 (b + 1) (b + 2) l → bF h h2 b (b + 4) → esO h2 wa es → jj_WP d mX8_cutLevel bc bs 35 [(0, .ref b), (1, .ref wa), (2, .int (nI es.length)), (3, .int (nI X.length)), (4, .int (nI f)), (5, .int fr), (6, .int (rl es f (16 * (i - f)))), (7, .int (nI i))] [] h2 Q := by
      intro q
      induction q with
      | zero =>
        intro i f P bc bs h2 fr hi hf hm hP hfr hbc hbs B2 A2 T2 R2 F2 E2
        have : i = es.length := by omega
        subst this
        rw [segs_nil, List.map_nil, List.append_nil] at hP
        rw [hP] at T2
        exact fin _ _ _ _ _ h2 B2 A2 T2 R2 F2
      | succ q ih =>
        intro i f P bc bs h2 fr hi hf hm hP hfr hbc hbs B2 A2 T2 R2 F2 E2
        refine jV_WP fun V2 => ?_
        have cutD : ends es f i = true → jj_WP d mX8_cutLevel bc bs 76 [(0, .ref b), (1, .ref wa), (2, .int (nI es.length)), (3, .int (nI X.length)), (4, .int (nI f)), (5, .int fr), (7, .int (nI i))] [] h2 Q := by
          intro he
          rw [segs, if_pos he, List.map_cons] at hP
          have hC := sumB_C C (f := f) (i - f) (by omega)
          rw [show i - f + 1 = i + 1 - f by omega, show f + (i - f) = i by omega] at hC
          have hC1 := C.1 i (by omega)
          have hlen : P.length < (levN X.length es fb).length := by rw [← hP]; simp
          refine VX8_cutLevel_76 _ _ _ _ _ _ _ ?_
          rw [qa_1, show i + 1 = f + (i + 1 - f) by omega]
          refine c_below E2 (by omega) (by omega) hb h0 (c_hash E2 (by omega) (by omega) ?_)
          refine ⟨B2.1, by omega, by omega, ?_⟩
          rw [q_sub (by omega), qa_1, show i - f + 1 = i + 1 - f by omega, hfr (by omega)]
          have key := c_addNode (h := h2) (Q := fun v10 h9 => jj_WP d mX8_cutLevel (bc - 1) (bs - 9) 35 [(0, .ref b), (1, .ref wa), (2, .int (nI es.length)), (3, .int (nI X.length)), (4, .int (nI (f + (i + 1 - f)))), (5, .int (nI (fb f).1 + nI (sumB fb f (i + 1 - f)))), (6, .int 0), (7, .int (nI (f + (i + 1 - f))))] [] h9 Q) (nd := mkN X.length es fb (f, i + 1 - f)) B2 A2 T2 R2 (by omega) rfl (by show (fb f).1 + sumB fb f (i + 1 - f) ≤ l.length; omega) (fun z => by have z' : sumB fb f (i + 1 - f) = 0 := z; omega) fun h3 A3 T3 F3 => by
            have B3 := F3.bT V2 B2 A2
            have := ih (i + 1) (i + 1) (P ++ [mkN X.length es fb (f, i + 1 - f)]) (bc - 1) (bs - 9) h3 (nI (fb f).1 + nI (sumB fb f (i + 1 - f))) (by omega) (Nat.le_refl _) (by omega) (by rw [List.append_assoc]; exact hP) (fun hlt => by rw [nI_add]; congr 1; have := C.2 i hlt; omega) (by omega) (by omega) B3 A3 T3 (F3.rw V2 A2 B2.1 R2 (by omega) (by omega)) (F2.trans F3) (F3.es V2 A2 E2 hwa hwa)
            rw [show i + 1 - (i + 1) = 0 by omega] at this
            show jj_WP _ _ _ _ _ _ _ _ _
            rw [show f + (i + 1 - f) = i + 1 by omega]
            exact this
          exact key
        refine VX8_cutLevel_35 _ _ _ _ _ _ _ _ ?_
        rw [nI_leI (by omega) (by omega)]
        refine ⟨fun c => by omega, fun _ => c_roll E2 (by omega) hf ?_⟩
        simp (disch := omega) only [jj_vi, qm_3, qm_4, qm_16, qm_600, qm_200, qm_8, qn_210, qn_3, qa_0, qb_0, qa_1, qb_1, qa_2, qb_2, qa_3, qb_3, qa_4, qb_4, qa_16, qb_16, qa_180, qb_180, qs_1, qs_2, qs_3, qs_4, qs_6, qs_24, nI_add, q_sub, q_pred, q_clamp, q_in, nI_leI, nI_ltI, nI_eq, ql_0, qL_0, qt_0, qT_0, qe_0, qc_0, qi_0, ql_1, qL_1, qt_1, qT_1, qe_1, qc_1, qi_1, ql_2, qL_2, qt_2, qT_2, qe_2, qc_2, qi_2, ql_3, qL_3, qt_3, qT_3, qe_3, qc_3, qi_3, ql_4, qL_4, qt_4, qT_4, qe_4, qc_4, qi_4, ql_6, qL_6, qt_6, qT_6, qe_6, qc_6, qi_6, ql_8, qL_8, qt_8, qT_8, qe_8, qc_8, qi_8, ql_10, qL_10, qt_10, qT_10, qe_10, qc_10, qi_10, ql_24, qL_24, qt_24, qT_24, qe_24, qc_24, qi_24, ql_60, qL_60, qt_60, qT_60, qe_60, qc_60, qi_60, ql_100, qL_100, qt_100, qT_100, qe_100, qc_100, qi_100, ql_200, qL_200, qt_200, qT_200, qe_200, qc_200, qi_200, ql_400, qL_400, qt_400, qT_400, qe_400, qc_400, qi_400, ql_600, qL_600, qt_600, qT_600, qe_600, qc_600, qi_600, ql_900, qL_900, qt_900, qT_900, qe_900, qc_900, qi_900, ql_1200, qL_1200, qt_1200, qT_1200, qe_1200, qc_1200, qi_1200, ql_65536, qL_65536, qt_65536, qT_65536, qe_65536, qc_65536, qi_65536]
        refine ⟨fun c => cutD (by unfold ends; simp; omega), fun c => ?_⟩
        rw [show i - f + 1 = i + 1 - f by omega]
        refine c_ends hf (by omega) (by omega) (by omega) ?_
        by_cases he : ends es f i = true
        · rw [if_pos he]
          exact ⟨fun c => absurd c (by decide), fun _ => cutD he⟩
        · rw [if_neg he]
          refine ⟨fun _ => ?_, fun c => absurd rfl c⟩
          rw [segs, if_neg he] at hP
          have h9 : i + 1 - f ≤ 9 := by
            unfold ends at he
            simp at he
            omega
          exact ih (i + 1) f P bc bs h2 fr (by omega) (by omega) (by omega) hP hfr (by omega) (by omega) B2 A2 T2 R2 F2 E2
    have := loop es.length 0 0 [] 202 1818 h1 0 (by omega) (by omega) (by omega) (by unfold levN; rw [if_neg hn]; rfl) (fun _ => by rw [h00 hn]; rfl) (by omega) (by omega) B1 A1 T1 R1 F1 E1
    exact this
  · refine c_hash (f := 0) (n := 0) E1 (by omega) (by omega) ⟨B1.1, by omega, by omega, ?_⟩
    have he0 : es.length = 0 := hn
    have e1 : levN X.length es fb = [(X.length, 0, 0, 0, hsh X.length es 0 0)] := by unfold levN; rw [if_pos he0]
    refine jV_C (by decide +kernel) fun V1 => ?_
    refine c_addNode (nd := (X.length, 0, 0, 0, hsh X.length es 0 0)) B1 A1 T1 R1 (by rw [e1] at cap; simp at cap ⊢; omega) rfl (Nat.zero_le _) (fun _ => rfl) fun h3 A3 T3 F3 => ?_
    have := fin (202 - 1) (1818 - 9) 0 0 0 h3 (F3.bT V1 B1 A1) A3 (by rw [e1]; exact T3) (F3.rw V1 A1 B1.1 R1 (by omega) (by omega)) (F1.trans F3)
    rw [he0] at this ⊢
    exact this
/-- the last key of a node -/
theorem lastK_nk {nd : Nd} (h1 : 1 ≤ nd.2.2.2.1) (h2 : nd.2.2.1 + nd.2.2.2.1 ≤ l.length) : lastK (nk l nd) = Int32.toInt64 (l.getD (nd.2.2.1 + nd.2.2.2.1 - 1) (0, 0, 0, 0)).1 := by
  have hlen : (nk l nd).2.2.length = nd.2.2.2.1 := by simp [nk]; omega
  have e : (nk l nd).2.2.getLast? = l[nd.2.2.1 + nd.2.2.2.1 - 1]? := by
    rw [List.getLast?_eq_getElem?, hlen]
    show ((l.drop nd.2.2.1).take nd.2.2.2.1)[nd.2.2.2.1 - 1]? = _
    rw [List.getElem?_take, if_pos (by omega), List.getElem?_drop]
    congr 1
    omega
  unfold lastK
  rw [e, List.getD_eq_getElem?_getD]
  obtain ⟨x, hx⟩ : ∃ x, l[nd.2.2.1 + nd.2.2.2.1 - 1]? = some x := ⟨_, List.getElem?_eq_getElem (by omega)⟩
  rw [hx]
  rfl
def uF (h h' : jj_H) (u : Nat) : Prop := h'.2 = h.2 ∧ ∀ tg a i, ¬ (tg = 1000 ∧ a = u) → jI h' tg a i = jI h tg a i
theorem uF.rw {h h' : jj_H} {u r w : Nat} {l' : List Row} (F : uF h h' u) (hw : w ≠ u) (R : rwO h r w l') : rwO h' r w l' := by
  obtain ⟨f1, f2⟩ := F
  obtain ⟨z1, z2, z3, z4, z5, z6, z7, z8⟩ := R
  unfold rwO jK jR jN at *
  rw [f1]
  refine ⟨z1, z2, z3, z4, z5, ?_, z7, fun i x c hx hc => ?_⟩
  · rw [f2 _ _ _ (by omega)]; exact z6
  · rw [f2 _ _ _ (by omega)]; exact z8 i x c hx hc
theorem uF.tbX {h h' : jj_H} {S : Nat → Nat → Nat → NK → Prop} {tb na st u : Nat} {X : List (List Nd)} (F : uF h h' u) (hst : st ≠ u) (hS : ∀ a r w k, S a r w k → w ≠ u) (T : tbX S h tb na st l X) : tbX S h' tb na st l X := by
  obtain ⟨t1, t2, t3, t4, t5, t6, t7, t8, t9, t10, t11, t12⟩ := T
  have F' := F
  obtain ⟨f1, f2⟩ := F
  have eK : ∀ a, jK h' a = jK h a := fun a => by unfold jK; rw [f1]
  have eR : ∀ tg a i, jR h' tg a i = jR h tg a i := fun tg a i => by unfold jR; rw [f1]
  have eN : ∀ a, jN h' a = jN h a := fun a => by unfold jN; rw [f1]
  have eL : ∀ tg a i, jL h' tg a i = jL h tg a i := fun tg a i => by unfold jL; rw [f1]
  refine ⟨by rw [eK]; exact t1, by rw [eR]; exact t2, by rw [eR]; exact t3, by rw [eK]; exact t4, by rw [eK]; exact t5, by rw [eN]; exact t6, by rw [eN]; exact t7, by rw [eN]; exact t8, by rw [eN]; exact t9, by rw [f2 _ _ _ (by omega)]; exact t10, fun lv hlv => by rw [f2 _ _ _ (by omega)]; exact t11 lv hlv, fun i nd hi => ?_⟩
  obtain ⟨r, w, s, N⟩ := t12 i nd hi
  rw [eR]
  exact ⟨r, w, s, N.fr (fun l' R' => F'.rw (hS _ _ _ _ s) R') (eK _) (eR _ _ _) (fun tg p1 p2 => f2 _ _ _ (by omega)) (eL _ _ _)⟩
theorem c_writeEntries {g u lv : Nat} {ns : List Nd} (kg : jK h g = 9) (rg : jR h 400 g 0 = u) (ku : jK h u = 21) (nu : jN h u = 400) (hu2 : u ≠ b + 2) (hu4 : u ≠ b + 4) (T : tbX (Sw b) h b (b + 3) (b + 4) l X) (hX : X.length ≤ 8) (hl : l.length ≤ 200) (hns : X[lv]? = some ns) (hn : ns.length ≤ 100) (ok : ∀ nd ∈ ns, 1 ≤ nd.2.2.2.1 ∧ nd.2.2.1 + nd.2.2.2.1 ≤ l.length) (H : ∀ h', esO h' u (ns.map (entN l)) → uF h h' u → Q (.int (nI ns.length)) h') : jj_C mX8_writeEntries 0 0 [.ref g, .ref b, .int (nI lv)] h Q := by
  have hlv := (List.getElem?_eq_some_iff.mp hns).1
  refine EX8_writeEntries _ _ _ fun d => ⟨T.1, c_nodesOn T (fun lv' ns' h1 h2 => ?_) (fun h1 => by rw [lim_nI (by omega) hlv] at h1; cases h1)⟩
  rw [lim_nI (by omega) hlv] at h1
  cases h1
  rw [hns] at h2
  cases h2
  have e4 : nI 400 / 4 = nI 100 := by decide
  simp (disch := omega) only [jj_vi, kg, rg, ku, nu, e4, q_clamp, q_in, nI_leI, nI_ltI, nI_eq, ql_0, qL_0, qt_0, qT_0, qe_0, qc_0, qi_0, ql_1, qL_1, qt_1, qT_1, qe_1, qc_1, qi_1, ql_2, qL_2, qt_2, qT_2, qe_2, qc_2, qi_2, ql_3, qL_3, qt_3, qT_3, qe_3, qc_3, qi_3, ql_4, qL_4, qt_4, qT_4, qe_4, qc_4, qi_4, ql_6, qL_6, qt_6, qT_6, qe_6, qc_6, qi_6, ql_8, qL_8, qt_8, qT_8, qe_8, qc_8, qi_8, ql_10, qL_10, qt_10, qT_10, qe_10, qc_10, qi_10, ql_24, qL_24, qt_24, qT_24, qe_24, qc_24, qi_24, ql_60, qL_60, qt_60, qT_60, qe_60, qc_60, qi_60, ql_100, qL_100, qt_100, qT_100, qe_100, qc_100, qi_100, ql_200, qL_200, qt_200, qT_200, qe_200, qc_200, qi_200, ql_400, qL_400, qt_400, qT_400, qe_400, qc_400, qi_400, ql_600, qL_600, qt_600, qT_600, qe_600, qc_600, qi_600, ql_900, qL_900, qt_900, qT_900, qe_900, qc_900, qi_900, ql_1200, qL_1200, qt_1200, qT_1200, qe_1200, qc_1200, qi_1200, ql_65536, qL_65536, qt_65536, qT_65536, qe_65536, qc_65536, qi_65536, true_and, and_true, eq_self, forall_eq, forall_eq_apply_imp_iff]
  rw [if_neg (by omega)]
  have loop : ∀ q i (h1 : jj_H), i + q = ns.length → uF h h1 u → (∀ j nd c, j < i → ns[j]? = some nd → c < 4 → jI h1 1000 u (4 * j + c) = wd (entN l nd) c) → jj_WP d mX8_writeEntries 0 0 19 [(0, .ref g), (1, .ref b), (2, .int (nI lv)), (3, .int (nI ns.length)), (4, .int (nI i))] [] h1 Q := by
    intro q
    induction q with
    | zero =>
      intro i h1 hi F lo
      refine VX8_writeEntries_19 _ _ _ _ _ ?_
      rw [nI_leI (by omega) (by omega)]
      refine ⟨fun _ => H h1 ⟨?_, ?_, ?_, ?_, fun j x c hx hc => ?_⟩ F, fun c => by omega⟩
      · unfold jK at *; rw [F.1]; exact ku
      · rw [List.length_map]; unfold jN at *; rw [F.1, nu]; omega
      · unfold jN at *; rw [F.1, nu]; decide
      · rw [List.length_map]; omega
      · rw [List.getElem?_map] at hx
        cases e : ns[j]? with
        | none => rw [e] at hx; cases hx
        | some nd =>
          rw [e] at hx
          cases hx
          exact lo j nd c (by have := (List.getElem?_eq_some_iff.mp e).1; omega) e hc
    | succ q ih =>
      intro i h1 hi F lo
      have T1 := F.tbX (u := u) (by omega) (fun a r w k s => by rw [s.2]; omega) T
      obtain ⟨nd, hnd⟩ : ∃ nd, ns[i]? = some nd := ⟨_, List.getElem?_eq_getElem (by omega)⟩
      obtain ⟨o1, o2⟩ := ok nd (List.mem_of_getElem? hnd)
      refine VX8_writeEntries_19 _ _ _ _ _ ?_
      rw [nI_leI (by omega) (by omega)]
      refine ⟨fun c => by omega, fun _ => ⟨T1.1, jV_C (by decide +kernel) fun V2 => c_nodeAt T1 (fun lv' ns' i' nd' g1 g2 g3 g4 => ?_) (fun g1 => ?_)⟩⟩
      · rw [lim_nI (by omega) hlv] at g1
        cases g1
        rw [hns] at g2
        cases g2
        rw [lim_nI (by omega) (by omega)] at g3
        cases g3
        rw [hnd] at g4
        cases g4
        obtain ⟨r, w, sw, N⟩ := T1.2.2.2.2.2.2.2.2.2.2.2 _ nd (flat_at hns hnd)
        have kg1 : jK h1 g = 9 := by unfold jK at *; rw [F.1]; exact kg
        have rg1 : jR h1 400 g 0 = u := by unfold jR at *; rw [F.1]; exact rg
        have ku1 : jK h1 u = 21 := by unfold jK at *; rw [F.1]; exact ku
        have nu1 : jN h1 u = 400 := by unfold jN at *; rw [F.1]; exact nu
        have n1 := N.1
        have n8 := N.2.2.2.2.2.2.2.1
        have n6 := N.2.2.2.2.2.1
        have hlen : (nk l nd).2.2.length = nd.2.2.2.1 := by simp [nk]; omega
        rw [hlen] at n6
        have nz2 := (jV_le V2 (a := jR h1 1000 (b + 3) (off X lv + i)) (by rw [n1]; decide)).1
        generalize jR h1 1000 (b + 3) (off X lv + i) = a at *
        refine ⟨fun _ => ⟨kg1, n1, c_lastKey N ?_⟩, fun z => by omega⟩
        rw [lastK_nk o1 o2]
        simp (disch := omega) only [jj_vj, Int32.toInt32_toInt64, kg1, rg1, ku1, nu1, n1, jR_wI, jL_wI, qm_3, qm_4, qm_16, qm_600, qm_200, qm_8, qn_210, qn_3, qa_0, qb_0, qa_1, qb_1, qa_2, qb_2, qa_3, qb_3, qa_4, qb_4, qa_16, qb_16, qa_180, qb_180, qs_1, qs_2, qs_3, qs_4, qs_6, qs_24, nI_add, q_sub, q_pred, q_clamp, q_in, nI_leI, nI_ltI, nI_eq, ql_0, qL_0, qt_0, qT_0, qe_0, qc_0, qi_0, ql_1, qL_1, qt_1, qT_1, qe_1, qc_1, qi_1, ql_2, qL_2, qt_2, qT_2, qe_2, qc_2, qi_2, ql_3, qL_3, qt_3, qT_3, qe_3, qc_3, qi_3, ql_4, qL_4, qt_4, qT_4, qe_4, qc_4, qi_4, ql_6, qL_6, qt_6, qT_6, qe_6, qc_6, qi_6, ql_8, qL_8, qt_8, qT_8, qe_8, qc_8, qi_8, ql_10, qL_10, qt_10, qT_10, qe_10, qc_10, qi_10, ql_24, qL_24, qt_24, qT_24, qe_24, qc_24, qi_24, ql_60, qL_60, qt_60, qT_60, qe_60, qc_60, qi_60, ql_100, qL_100, qt_100, qT_100, qe_100, qc_100, qi_100, ql_200, qL_200, qt_200, qT_200, qe_200, qc_200, qi_200, ql_400, qL_400, qt_400, qT_400, qe_400, qc_400, qi_400, ql_600, qL_600, qt_600, qT_600, qe_600, qc_600, qi_600, ql_900, qL_900, qt_900, qT_900, qe_900, qc_900, qi_900, ql_1200, qL_1200, qt_1200, qT_1200, qe_1200, qc_1200, qi_1200, ql_65536, qL_65536, qt_65536, qT_65536, qe_65536, qc_65536, qi_65536, n8, true_and, and_true, eq_self, forall_eq, forall_eq_apply_imp_iff]
        refine ih (i + 1) _ (by omega) ⟨F.1, fun tg a' i' hne => ?_⟩ fun j nd2 c hj hj2 hc => ?_
        · rw [jI_wI, if_neg (by omega), jI_wI, if_neg (by omega), jI_wI, if_neg (by omega), jI_wI, if_neg (by omega)]
          exact F.2 tg a' i' hne
        · by_cases e : j = i
          · subst e
            rw [hnd] at hj2
            cases hj2
            have h5 : jI (wI (wI (wI h1 1000 u (4 * j) (l.getD (nd.2.2.1 + nd.2.2.2.1 - 1) (0, 0, 0, 0)).1) 1000 u (4 * j + 1) (Int64.toInt32 (Int64.toUInt64 (nk l nd).2.1 >>> ((Int32.toInt64 32).toUInt64 &&& Int64.toUInt64 63)).toInt64)) 1000 u (4 * j + 2) (Int64.toInt32 (nk l nd).2.1)) 153 a 0 = nI nd.2.2.2.1 := by
              rw [jI_wI, if_neg (by omega), jI_wI, if_neg (by omega), jI_wI, if_neg (by omega)]; exact n6
            rcases (show c = 0 ∨ c = 1 ∨ c = 2 ∨ c = 3 by omega) with z | z | z | z <;> subst z
            · rw [jI_wI, if_neg (by omega), jI_wI, if_neg (by omega), jI_wI, if_neg (by omega), jI_wI, if_pos ⟨rfl, rfl, rfl⟩]; rfl
            · rw [jI_wI, if_neg (by omega), jI_wI, if_neg (by omega), jI_wI, if_pos ⟨rfl, rfl, rfl⟩]; rfl
            · rw [jI_wI, if_neg (by omega), jI_wI, if_pos ⟨rfl, rfl, rfl⟩]; rfl
            · rw [jI_wI, if_pos ⟨rfl, rfl, rfl⟩, h5]; rfl
          · rw [jI_wI, if_neg (by omega), jI_wI, if_neg (by omega), jI_wI, if_neg (by omega), jI_wI, if_neg (by omega)]
            exact lo j nd2 c (by omega) hj2 hc
      · exfalso
        rcases g1 with (g1 | ⟨lv', ns', g1, g2, g3⟩) | g1
        · rw [lim_nI (by omega) hlv] at g1; cases g1
        · rw [lim_nI (by omega) hlv] at g1
          cases g1
          rw [hns] at g2
          cases g2
          rw [lim_nI (by omega) (by omega)] at g3
          cases g3
        · exact absurd g1 (neg_nI (by omega))
  exact loop ns.length 0 h (by omega) ⟨rfl, fun _ _ _ _ => rfl⟩ (fun j nd c hj => by omega)
end JD3
