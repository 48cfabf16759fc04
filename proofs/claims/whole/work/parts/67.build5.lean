/-! the class: a tree is built -/
theorem lvs_hd (l : List Row) (k lv : Nat) (es : List Row) (fb : Nat → Nat × Nat) : ∃ r, lvs l (k + 1) lv es fb = levN lv es fb :: r := by
  rw [lvs]
  split
  · exact ⟨_, rfl⟩
  · exact ⟨_, rfl⟩
theorem uF.bF {h h' : jj_H} {b u : Nat} (F : uF h h' u) : bF h h' b u := by
  obtain ⟨f1, f2⟩ := F
  refine ⟨?_, fun a _ => ⟨?_, ?_⟩, fun tg a i _ _ _ c => f2 _ _ _ (by omega), fun tg a i _ _ => ?_, fun tg a i _ _ _ => ?_, fun i _ => Or.inl ?_⟩
  · unfold jZ; rw [f1]; exact Nat.le_refl _
  · unfold jK; rw [f1]
  · unfold jN; rw [f1]
  · unfold jL; rw [f1]
  · unfold jR; rw [f1]
  · unfold jR; rw [f1]
theorem uF.tT {h h' : jj_H} {b u : Nat} (F : uF h h' u) (B : bT h b) : bT h' b := by
  unfold bT jK jR jN at *
  rw [F.1]
  exact B
theorem uF.tA {h h' : jj_H} {b u : Nat} (F : uF h h' u) (A : nA h b) : nA h' b := by
  unfold nA jK jR at *
  rw [F.1]
  exact A
section JD4
variable {b : Nat} {l : List Row} {h : jj_H} {Q : Value → jj_H → Prop}
theorem c_build {g u : Nat} (B : bT h b) (A : nA h b) (R : rwO h (b + 1) (b + 2) l) (kg : jK h g = 9) (rg : jR h 400 g 0 = u) (ku : jK h u = 21) (nu : jN h u = 400) (hu2 : u ≠ b + 2) (hu4 : u ≠ b + 4) (H : ∀ h', bT h' b → nA h' b → tbX (Sw b) h' b (b + 3) (b + 4) l (tree l) → rwO h' (b + 1) (b + 2) l → jI h' 354 b 0 = 0 → bF h h' b u → Q (.int 0) h') : jj_C mX8_build 1616 14544 [.ref g, .ref b] h Q := by
  refine jV_C (by decide +kernel) fun V => ?_
  obtain ⟨b1, b2⟩ := B.ex V
  have hl := R.2.2.2.2.2.2.1
  have htl := tree_len l hl
  have keep : ∀ h2, bF h h2 b u → jK h2 g = 9 ∧ jR h2 400 g 0 = u ∧ jK h2 u = 21 ∧ jN h2 u = 400 := by
    intro h2 F
    have eg := jV_le V (a := g) (by omega)
    have eu := jV_le V (a := u) (by omega)
    refine ⟨by rw [(F.2.1 _ (by omega)).1]; exact kg, ?_, by rw [(F.2.1 _ (by omega)).1]; exact ku, by rw [(F.2.1 _ (by omega)).2]; exact nu⟩
    rw [F.2.2.2.2.1 _ _ _ (by omega) (A.no (by omega) (by omega)) (by omega)]
    exact rg
  refine EX8_build _ _ fun d => ⟨B.1, c_clearNodes (l := l) B fun h1 T1 F1 e1 => ?_⟩
  have B1 := F1.bT V B A
  have R1 := F1.rw V A B.1 R (by omega) (by omega)
  have A1 : nA h1 b := by
    refine ⟨fun i hi => ?_, fun i j hi hj => ?_⟩
    · rw [e1]
      rcases A.1 i hi with q | q
      · exact Or.inl q
      · exact Or.inr (by rw [(F1.2.1 _ (jV_le V (by omega)).2).1]; exact q)
    · rw [e1, e1]; exact A.2 i j hi hj
  have E1 : esO h1 (b + 2) l := ⟨R1.2.2.1, R1.2.2.2.1, R1.2.2.2.2.1, hl, R1.2.2.2.2.2.2.2⟩
  refine ⟨B1.1, by rw [B1.2.1]; exact B1.2.2.2.2.1, by omega, by omega, ?_⟩
  rw [B1.2.1, R1.2.1, R1.2.2.2.2.2.1]
  have fin : ∀ (h2 : jj_H) (X : List (List Nd)), tree l = X → bT h2 b → nA h2 b → tbX (Sw b) h2 b (b + 3) (b + 4) l X → rwO h2 (b + 1) (b + 2) l → bF h h2 b u → Q (.int 0) (wI h2 354 b 0 0) := by
    intro h2 X hX B2 A2 T2 R2 F2
    subst hX
    refine H _ B2 A2 ?_ ?_ (by rw [jI_wI, if_pos ⟨rfl, rfl, rfl⟩]) (F2.trans ⟨Nat.le_refl _, fun _ _ => ⟨rfl, rfl⟩, fun tg a i ha hn c1 c2 => by rw [jI_wI, if_neg (by omega)], fun _ _ _ _ _ => rfl, fun _ _ _ _ _ _ => rfl, fun _ _ => Or.inl rfl⟩)
    · obtain ⟨t1, t2, t3, t4, t5, t6, t7, t8, t9, t10, t11, t12⟩ := T2
      refine ⟨t1, t2, t3, t4, t5, t6, t7, t8, t9, by rw [jI_wI, if_neg (by omega)]; exact t10, fun lv hlv => by rw [jI_wI, if_neg (by omega)]; exact t11 lv hlv, fun i nd hi => ?_⟩
      obtain ⟨r, w, s, N⟩ := t12 i nd hi
      refine ⟨r, w, s, N.fr (fun l' R' => ?_) rfl rfl (fun tg p1 p2 => by rw [jI_wI, if_neg (by omega)]) rfl⟩
      obtain ⟨z1, z2, z3, z4, z5, z6, z7, z8⟩ := R'
      exact ⟨z1, z2, z3, z4, z5, by rw [jI_wI, if_neg (by omega)]; exact z6, z7, fun i x c hx hc => by rw [jI_wI, if_neg (by omega)]; exact z8 i x c hx hc⟩
    · obtain ⟨z1, z2, z3, z4, z5, z6, z7, z8⟩ := R2
      exact ⟨z1, z2, z3, z4, z5, by rw [jI_wI, if_neg (by omega)]; exact z6, z7, fun i x c hx hc => by rw [jI_wI, if_neg (by omega)]; exact z8 i x c hx hc⟩
  have loop : ∀ q lv k (X' : List (List Nd)) (es : List Row) (fb : Nat → Nat × Nat) bc bs (h2 : jj_H), lv + q = 7 → tree l = X' ++ lvs l (k + 1) lv es fb → X'.length = lv → es.length ≤ k → es.length ≤ 200 → fbC fb es.length l.length → (es.length ≠ 0 → (fb 0).1 = 0) → 202 * (7 - lv) ≤ bc → 1818 * (7 - lv) ≤ bs → bT h2 b → nA h2 b → tbX (Sw b) h2 b (b + 3) (b + 4) l (X' ++ [levN lv es fb]) → rwO h2 (b + 1) (b + 2) l → bF h h2 b u → jj_WP d mX8_build bc bs 24 [(0, .ref g), (1, .ref b), (2, .int (nI (lv + 1)))] [] h2 Q := by
    intro q
    induction q with
    | zero =>
      intro lv k X' es fb bc bs h2 hq hT hXl hk hes C h00 hbc hbs B2 A2 T2 R2 F2
      have : lv = 7 := by omega
      subst this
      refine VX8_build_24 _ _ _ ⟨fun _ => ⟨B2.1, ?_⟩, fun c => absurd (by decide) c⟩
      rintro _ rfl
      refine fin h2 _ ?_ B2 A2 T2 R2 F2
      rw [hT]
      congr 1
      rw [lvs]
      have hl2 := levN_len 7 es fb
      by_cases h1 : 1 < (levN 7 es fb).length
      · exfalso
        rw [lvs, if_pos h1] at hT
        obtain ⟨k2, rfl⟩ : ∃ k2, k = k2 + 1 := ⟨k - 1, by omega⟩
        obtain ⟨r, hr⟩ := lvs_hd l k2 (7 + 1) ((levN 7 es fb).map (entN l)) (fbN (levN 7 es fb))
        rw [hr] at hT
        have := htl.2
        rw [hT] at this
        simp only [List.length_append, List.length_cons] at this
        omega
      · rw [if_neg h1]
    | succ q ih =>
      intro lv k X' es fb bc bs h2 hq hT hXl hk hes C h00 hbc hbs B2 A2 T2 R2 F2
      have hl2 := levN_len lv es fb
      have hat : (X' ++ [levN lv es fb])[lv]? = some (levN lv es fb) := by rw [← hXl]; simp
      have hlen : (X' ++ [levN lv es fb]).length = lv + 1 := by simp; omega
      refine jV_WP fun V2 => ?_
      refine VX8_build_24 _ _ _ ?_
      rw [qL_8 (by omega), qs_1 (by omega), show lv + 1 - 1 = lv by omega]
      refine ⟨fun c => by omega, fun _ => ⟨B2.1, c_nodesOn T2 (fun lv' ns' g1 g2 => ?_) (fun g1 => by rw [lim_nI (by omega) (by omega)] at g1; cases g1)⟩⟩
      rw [lim_nI (by omega) (by omega)] at g1
      cases g1
      rw [hat] at g2
      cases g2
      simp only [jj_vi]
      rw [ql_1 (by omega)]
      refine ⟨fun c => ⟨B2.1, ?_⟩, fun c => ?_⟩
      · rintro _ rfl
        refine fin h2 _ ?_ B2 A2 T2 R2 F2
        rw [hT, lvs, if_neg (by omega)]
      · obtain ⟨kg2, rg2, ku2, nu2⟩ := keep h2 F2
        have he0 : es.length ≠ 0 := by
          intro z
          unfold levN at c
          rw [if_pos z] at c
          simp at c
        have C2 := fbC_next (lv := lv) C he0
        refine ⟨kg2, c_writeEntries kg2 rg2 ku2 nu2 hu2 hu4 T2 (by omega) hl hat (by omega) (fun nd hnd => ?_) fun h3 E3 F3 => ?_⟩
        · obtain ⟨j, hj⟩ := List.getElem?_of_mem hnd
          have := C2.1 j (List.getElem?_eq_some_iff.mp hj).1
          rw [fbN_at hj] at this
          exact this
        · have T3 := F3.tbX (by omega) (fun a r w k s => by rw [s.2]; omega) T2
          have B3 := F3.tT B2
          have A3 := F3.tA A2
          have R3 := F3.rw (by omega) R2
          have F03 : bF h h3 b u := F2.trans F3.bF
          obtain ⟨kg3, rg3, ku3, nu3⟩ := keep h3 F03
          obtain ⟨k2, rfl⟩ : ∃ k2, k = k2 + 1 := ⟨k - 1, by omega⟩
          have hT2 : tree l = (X' ++ [levN lv es fb]) ++ lvs l (k2 + 1) (lv + 1) ((levN lv es fb).map (entN l)) (fbN (levN lv es fb)) := by
            rw [hT, lvs, if_pos (by omega), List.append_assoc]; rfl
          refine ⟨kg3, by omega, by omega, ?_⟩
          rw [rg3]
          have key := c_cutLevel (h := h3) (es := (levN lv es fb).map (entN l)) (fb := fbN (levN lv es fb)) (wa := u) (Q := fun v14 h13 => jj_WP d mX8_build (bc - 202) (bs - 1818) 24 [(0, .ref g), (1, .ref b), (2, .int (nI (lv + 1) + 1))] [] h13 Q) B3 A3 T3 R3 E3 hu4 (by rw [List.length_map]; exact C2) (fun _ => ?_) (fun _ e x hx => ?_) (fun z => by omega) ?_ (by omega) fun h4 B4 A4 T4 R4 F4 => ?_
          · rw [List.length_map] at key
            exact key
          · obtain ⟨nd, hnd⟩ : ∃ nd, (levN lv es fb)[0]? = some nd := ⟨_, List.getElem?_eq_getElem (by omega)⟩
            rw [fbN_at hnd]
            obtain ⟨qq, e1, rfl⟩ := levN_at he0 hnd
            have := (segs_ok es es.length 0 0 (Nat.le_refl _) (by omega) 0 qq e1).1 rfl
            show (fb qq.1).1 = 0
            rw [this]
            exact h00 he0
          · rw [List.getElem?_map] at hx
            cases e2 : (levN lv es fb)[e]? with
            | none => rw [e2] at hx; cases hx
            | some nd =>
              rw [e2] at hx
              cases hx
              rw [fbN_at e2]
              rfl
          · obtain ⟨r, hr⟩ := lvs_hd l k2 (lv + 1) ((levN lv es fb).map (entN l)) (fbN (levN lv es fb))
            rw [hr] at hT2
            have := htl.1
            rw [hT2] at this
            unfold flat at this ⊢
            rw [List.flatten_append, List.flatten_cons, List.length_append, List.length_append] at this
            rw [hlen]
            omega
          · rw [hlen] at T4
            rw [qa_1]
            exact ih (lv + 1) k2 _ _ _ _ _ h4 (by omega) hT2 hlen (by rw [List.length_map]; omega) (by rw [List.length_map]; omega) (by rw [List.length_map]; exact C2) (fun _ => by
              obtain ⟨nd, hnd⟩ : ∃ nd, (levN lv es fb)[0]? = some nd := ⟨_, List.getElem?_eq_getElem (by omega)⟩
              rw [fbN_at hnd]
              obtain ⟨qq, e1, rfl⟩ := levN_at he0 hnd
              have := (segs_ok es es.length 0 0 (Nat.le_refl _) (by omega) 0 qq e1).1 rfl
              show (fb qq.1).1 = 0
              rw [this]
              exact h00 he0) (by omega) (by omega) B4 A4 T4 R4 (F03.trans F4.mono)
  have hcap : (levN 0 l (fun j => (j, 1))).length ≤ 202 := by
    obtain ⟨r, hr⟩ := lvs_hd l l.length 0 l (fun j => (j, 1))
    have := htl.1
    unfold tree at this
    rw [hr] at this
    unfold flat at this
    rw [List.flatten_cons, List.length_append] at this
    omega
  refine c_cutLevel (X := []) (es := l) (fb := fun j => (j, 1)) B1 A1 T1 R1 E1 (by omega) (fbC_0 _) (fun _ => rfl) (fun z => absurd rfl z) (fun _ => rfl) (by simpa [flat] using hcap) (by decide) fun h2 B2 A2 T2 R2 F2 => ?_
  exact loop 7 0 l.length [] l (fun j => (j, 1)) _ _ h2 (by omega) rfl rfl (Nat.le_refl _) hl (fbC_0 _) (fun _ => rfl) (by omega) (by omega) B2 A2 T2 R2 (F1.mono.trans F2.mono)
end JD4
