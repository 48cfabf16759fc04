/-! the class: a table is kept -/
section JKe
variable {h h' h1 : jj_H} {x m t : Nat} {P : Pl} {Q : Value → jj_H → Prop}
theorem c_copyOf {r n : Nat} (k : jK h r = 21) (hn : jN h r = 9) (hr : r ≤ jZ h) (h1 : 1 ≤ n) (h9 : n ≤ 9) (H : ∀ h', jZ h' = jZ h + 1 → jK h' (jZ h + 1) = 21 → jN h' (jZ h + 1) = n → (∀ i, i < n → jI h' 1000 (jZ h + 1) i = jI h 1000 r i) → nF h h' → Q (.ref (jZ h + 1)) h') : jj_C mJ7_copyOf_59c91 1 9 [.ref r, .int (nI n)] h Q := by
  have cp : ∀ q, q ≤ n → q = n → Q (.ref (jZ h + 1)) (wC (wA h 21 n) r 0 (jZ h + 1) 0 q) := by
    intro q _ e
    subst e
    refine H _ rfl ?_ ?_ (fun i hi => ?_) ⟨by show jZ h ≤ jZ h + 1; omega, fun a ha => ⟨?_, ?_, fun tg i _ => ⟨?_, ?_, ?_⟩⟩⟩
    · rw [jK_wC, jK_wA, if_pos rfl]
    · rw [jN_wC, jN_wA, if_pos rfl]
    · rw [jI_wC, if_pos ⟨rfl, rfl⟩, pk_cpy_in (by omega) (by omega), jI_wA, if_neg (by omega)]
      congr 1
      omega
    · rw [jK_wC, jK_wA, if_neg (by omega)]
    · rw [jN_wC, jN_wA, if_neg (by omega)]
    · rw [jI_wC, if_neg (by omega), jI_wA, if_neg (by omega)]
    · rw [jL_wC, jL_wA, if_neg (by omega)]
    · rw [jR_wC, jR_wA, if_neg (by omega)]
  refine EJ7_copyOf_59c91 _ _ fun d => ⟨k, ?_⟩
  rw [hn]
  refine ⟨fun c => ?_, fun c => ?_⟩
  · have hne : n ≠ 9 := fun e => c (by rw [e])
    rw [q_clamp (by omega)]
    refine ⟨by omega, by omega, neg_nI (by omega), by omega, ?_⟩
    rintro _ rfl
    have n2 : jN (wA h 21 n) r = 9 := by rw [jN_wA, if_neg (by omega)]; exact hn
    have n3 : jN (wA h 21 n) (jZ h + 1) = n := by rw [jN_wA, if_pos rfl]
    have hmin : (if nI n < nI 9 then nI n else nI 9) = nI n := by rw [if_pos ((nI_ltI (by omega) (by decide)).mpr (by omega))]
    have c0 : Int32.toNatClampNeg (0 : Int32) = 0 := rfl
    rw [n2, n3, hmin, q_clamp (by omega), c0]
    refine ⟨by rw [jK_wA, if_neg (by omega)]; exact k, by rw [jK_wA, if_pos rfl], by decide, neg_nI (by omega), by omega, by omega, ?_⟩
    rintro _ rfl
    exact cp n (Nat.le_refl _) rfl
  · have e : n = 9 := (nI_eq (by omega) (by decide)).mp c
    refine ⟨by omega, by omega, ?_⟩
    rintro _ rfl
    have ew : wK h r = wC (wA h 21 n) r 0 (jZ h + 1) 0 n := by unfold wK; rw [hn, e]
    rw [ew]
    exact ⟨by rw [jK_wC, jK_wA, if_pos rfl], cp n (Nat.le_refl _) rfl⟩
theorem max0 {n : Nat} (hn : n < 100000) : (4 : Int32) * (if (0 : Int32) < nI n then nI n else 0) = nI (4 * n) := by
  by_cases c : (0 : Int32) < nI n
  · rw [if_pos c]; exact qm_4 n
  · rw [if_neg c]
    rw [qT_0 (by omega)] at c
    have : n = 0 := by omega
    subst this
    rfl
theorem c_keep {ls : Nat → List Row} (kz : kZ h x m) (M : cM h x) (W : Wk h x ls) (ht : t < 3) (st0 : jI h 354 (wb x t) 0 = 0) (Po : PO h x m P)
    (H : ∀ h' P' tb, cF (fun tg a => tg = 1000 ∧ a = x + 20) h h' → (∀ a, Wn h' x a → Wn h x a) → PO h' x m P' → (∀ k a, (a, k) ∈ P (bk k) → (a, k) ∈ P' (bk k)) → (∀ β p, β < 4096 → p ∈ P' β → p ∈ P β ∨ (jI h' 157 p.1 0 = 0 ∧ jI h' 158 p.1 0 = 0 ∧ ∀ b, (b, p.2) ∉ P (bk p.2))) → kT h' x m P' tb (ls t) → jI h' 355 tb 0 = 0 → jZ h < tb → Q (.ref tb) h') : jj_C mX4_keepTable 208 3000 [.ref (x + 19), .ref (wb x t)] h Q := by
  refine jV_C (by decide +kernel) fun V => ?_
  obtain ⟨z1, z2, z3, z4⟩ := id kz
  have Wt := W.1 t ht
  have T := Wt.2.2.2.1 st0
  have hbb : wb x t = x + 2 + 5 * t := rfl
  obtain ⟨a1, a2, a3, a4, a5, a6, a7, a8, a9, a10, a11, a12⟩ := Wt.1
  have R := Wt.2.2.1
  generalize hl : ls t = l at *
  have ll := R.2.2.2.2.2.2.1
  have cc := R.2.2.2.2.2.1
  have htl := tree_len l ll
  have hW : ∀ b, Wn h x b → b ≤ jZ h := by
    rintro b ⟨u, hu, i, hi, e⟩
    rcases (W.1 u hu).2.1.1 i hi with q | q
    · omega
    · rw [← e]; exact (jV_le V (by omega)).2
  generalize hz0 : jZ h = Z at *
  refine EX4_keepTable _ _ fun d => ⟨by omega, by omega, ?_⟩
  rintro _ rfl
  rw [hz0]
  have A1 : ∀ a, a ≤ Z → jK (wA h 7 0) a = jK h a := fun a ha => by rw [jK_wA, if_neg (by omega)]
  have A2 : ∀ tg a i, a ≤ Z → jR (wA h 7 0) tg a i = jR h tg a i := fun tg a i ha => by rw [jR_wA, if_neg (by omega)]
  have A3 : ∀ tg a i, a ≤ Z → jI (wA h 7 0) tg a i = jI h tg a i := fun tg a i ha => by rw [jI_wA, if_neg (by omega)]
  rw [A1 _ (by omega), A2 _ _ _ (by omega), a2, A1 _ (by omega), A3 _ _ _ (by omega), cc]
  refine ⟨a1, a5, by omega, by omega, by omega, ?_⟩
  refine EX6_init _ _ fun d2 => ⟨by omega, ?_⟩
  rw [max0 (by omega), q_clamp (by omega)]
  refine ⟨by omega, by omega, neg_nI (by omega), by omega, ?_⟩
  rintro _ rfl
  refine ⟨by rw [jK_wA, if_neg (by rw [jZ_wA]; omega), jK_wA, if_pos (by omega)], ?_⟩
  rintro _ rfl
  generalize hg2 : wR (wA (wA h 7 0) 21 (4 * l.length)) 300 (Z + 1) 0 (jZ (wA h 7 0) + 1) = g2
  have Fg2 : nF h g2 := by
    rw [← hg2]
    refine ⟨by show jZ h ≤ jZ h + 1 + 1; omega, fun a ha => ⟨?_, ?_, fun tg i _ => ⟨?_, ?_, ?_⟩⟩⟩
    · rw [jK_wR, jK_wA, if_neg (by rw [jZ_wA]; omega), jK_wA, if_neg (by omega)]
    · rw [jN_wR, jN_wA, if_neg (by rw [jZ_wA]; omega), jN_wA, if_neg (by omega)]
    · rw [jI_wR, jI_wA, if_neg (by rw [jZ_wA]; omega), jI_wA, if_neg (by omega)]
    · rw [jL_wR, jL_wA, if_neg (by rw [jZ_wA]; omega), jL_wA, if_neg (by omega)]
    · rw [jR_wR, if_neg (by omega), jR_wA, if_neg (by rw [jZ_wA]; omega), jR_wA, if_neg (by omega)]
  have Zg2 : jZ g2 = Z + 2 := by rw [← hg2, jZ_wR, jZ_wA, jZ_wA]; omega
  have kr2 : jK g2 (Z + 1) = 7 := by rw [← hg2, jK_wR, jK_wA, if_neg (by rw [jZ_wA]; omega), jK_wA, if_pos (by omega)]
  have rr2 : jR g2 300 (Z + 1) 0 = Z + 2 := by rw [← hg2, jR_wR, if_pos ⟨rfl, rfl, rfl⟩, jZ_wA]; omega
  have kw2 : jK g2 (Z + 2) = 21 := by rw [← hg2, jK_wR, jK_wA, if_pos (by rw [jZ_wA]; omega)]
  have nw2 : jN g2 (Z + 2) = 4 * l.length := by rw [← hg2, jN_wR, jN_wA, if_pos (by rw [jZ_wA]; omega)]
  have Rg2 : rwO g2 (wb x t + 1) (wb x t + 2) l := R.cf Fg2 (by omega) (by omega) id id id
  refine ⟨(Fg2.ek (by omega)).trans a1, kr2, ?_⟩
  rw [(Fg2.er (by omega) id).trans a2]
  refine c_become Rg2 kr2 rr2 kw2 (by omega) (by omega) (by omega) (by omega) fun h5 R5 F5 => ?_
  have F25 := F5.toC
  have Zg5 : jZ h5 = Z + 2 := by unfold jZ at *; rw [F5.1]; exact Zg2
  have Fh5 : nF h h5 := by
    refine ⟨by omega, fun a ha => ?_⟩
    have ha2 : a ≤ jZ g2 := by omega
    refine ⟨(F25.ek ha2).trans (Fg2.ek ha), (F25.en ha2).trans (Fg2.en ha), fun tg i _ => ?_⟩
    have np : ¬ pW (Z + 1) (Z + 2) tg a := by unfold pW; omega
    exact ⟨(F25.ei ha2 np).trans (Fg2.ei ha id), (F25.el ha2 np).trans (Fg2.el ha id), (F25.er ha2 np).trans (Fg2.er ha id)⟩
  -- the work's tree through every later heap
  have TT : ∀ {K : Nat → Nat → Prop} {g : jj_H}, cF K h g → (∀ tg a, K tg a → tg = 1000 ∧ (a = x + 20 ∨ Z < a)) → tbX (Sw (wb x t)) g (wb x t) (wb x t + 3) (wb x t + 4) l (tree l) ∧ rwO g (wb x t + 1) (wb x t + 2) l := by
    intro K g F hK
    have nK : ∀ {tg a}, a ≤ Z → a ≠ x + 20 → ¬ K tg a := fun h1 h2 q => by have := hK _ _ q; omega
    refine ⟨T.cf F (by omega) (by omega) (by omega) (fun tg _ _ => nK (by omega) (by omega)) (nK (by omega) (by omega)) (nK (by omega) (by omega)) fun i a r w k hi ha s _ => ?_, R.cf F (by omega) (by omega) (nK (by omega) (by omega)) (nK (by omega) (by omega)) (nK (by omega) (by omega))⟩
    obtain ⟨nd, hnd⟩ : ∃ nd, (flat (tree l))[i]? = some nd := ⟨_, List.getElem?_eq_getElem hi⟩
    obtain ⟨r2, w2, _, N2⟩ := T.2.2.2.2.2.2.2.2.2.2.2 i nd hnd
    have hle := (jV_le V (a := jR h 1000 (wb x t + 3) i) (by rw [N2.1]; decide)).2
    obtain ⟨rfl, rfl⟩ := id s
    exact ⟨s, by omega, by omega, by omega, fun tg _ _ q => by have := hK _ _ q; omega, nK (by omega) (by omega), nK (by omega) (by omega), nK (by omega) (by omega)⟩
  obtain ⟨T5, _⟩ := TT Fh5 (fun _ _ q => absurd q id)
  refine ⟨(Fh5.ek (by omega)).trans a1, c_nodesInAll T5 ?_⟩
  generalize htot : (flat (tree l)).length = tot at *
  simp only [jj_vi]
  rw [q_clamp (by omega), Zg5]
  refine ⟨by omega, by omega, neg_nI (by omega), by omega, ?_⟩
  rintro _ rfl
  -- the loop
  have fits : ∀ (g : jj_H), cF (fun tg a => tg = 1000 ∧ a = x + 20) h g → ∀ b, Wn g x b → Wn h x b := fun g F => Wn.cf F (by omega) (fun a h1 h2 q => by omega)
  have loop : ∀ q i (g : jj_H) (P1 : Pl) bc bs, i + q = tot → q + 2 ≤ bc → 9 * q + 15 ≤ bs → cF (fun tg a => tg = 1000 ∧ a = x + 20) h g → Z + 3 ≤ jZ g → rwO g (Z + 1) (Z + 2) l → jK g (Z + 3) = 25 → jN g (Z + 3) = tot → PO g x m P1 → (∀ k a, (a, k) ∈ P (bk k) → (a, k) ∈ P1 (bk k)) → (∀ β p, β < 4096 → p ∈ P1 β → p ∈ P β ∨ (jI g 157 p.1 0 = 0 ∧ jI g 158 p.1 0 = 0 ∧ ∀ b, (b, p.2) ∉ P (bk p.2))) → (∀ j nd, j < i → (flat (tree l))[j]? = some nd → (jR g 1000 (Z + 3) j, nk l nd) ∈ P1 (bk (nk l nd))) → jj_WP d mX4_keepTable bc bs 34 [(0, .ref (x + 19)), (1, .ref (wb x t)), (2, .ref (Z + 1)), (3, .ref (Z + 3)), (4, .int (nI i))] [] g Q := by
    intro q
    induction q with
    | zero =>
      intro i g P1 bc bs hi hbc hbs F hZ Rr_ kna nna Po1 sub1 new1 fil
      obtain ⟨Tg, _⟩ := TT F (fun tg a q => ⟨q.1, Or.inl q.2⟩)
      have wn := fits g F
      generalize hgz : jZ g = G at *
      refine VX4_keepTable_34 _ _ _ _ _ ⟨kna, ?_⟩
      rw [nna, nI_leI (by omega) (by omega)]
      refine ⟨fun _ => ⟨by omega, by omega, ?_⟩, fun c => by omega⟩
      rintro _ rfl
      rw [hgz]
      have kA : ∀ a, a ≤ G → jK (wA g 8 0) a = jK g a := fun a ha => by rw [jK_wA, if_neg (by omega)]
      have b1 : jK (wA g 8 0) (wb x t) = 8 := (kA _ (by omega)).trans Tg.1
      have b2 : jR (wA g 8 0) 352 (wb x t) 0 = wb x t + 4 := by rw [jR_wA, if_neg (by omega)]; exact Tg.2.2.1
      have b3 : jI (wA g 8 0) 353 (wb x t) 0 = nI (tree l).length := by rw [jI_wA, if_neg (by omega)]; exact Tg.2.2.2.2.2.2.2.2.2.1
      have b4 : jK (wA g 8 0) (wb x t + 4) = 21 := (kA _ (by omega)).trans Tg.2.2.2.2.1
      have b5 : jN (wA g 8 0) (wb x t + 4) = 9 := by rw [jN_wA, if_neg (by omega), F.en (by omega)]; exact a12
      refine ⟨b1, by omega, by omega, ?_⟩
      rw [b2, b3, qa_1]
      refine c_copyOf b4 b5 (by rw [jZ_wA]; omega) (by omega) (by omega) fun h3 Z3 k3 n3 i3 F3 => ?_
      rw [jZ_wA, hgz] at Z3 k3 n3 i3 ⊢
      have kt3 : jK h3 (G + 1) = 8 := (F3.ek (by rw [jZ_wA]; omega)).trans (by rw [jK_wA, if_pos (by omega)])
      refine ⟨by omega, EX7_init _ _ _ _ fun d3 => ⟨by omega, kt3, ?_⟩⟩
      rintro _ rfl _ rfl _ rfl _ rfl
      have Fg3 : nF g h3 := by
        refine ⟨by omega, fun a ha => ?_⟩
        have ha2 : a ≤ jZ (wA g 8 0) := by rw [jZ_wA]; omega
        refine ⟨(F3.ek ha2).trans (kA a (by omega)), (F3.en ha2).trans (by rw [jN_wA, if_neg (by omega)]), fun tg i _ => ⟨(F3.ei ha2 id).trans (by rw [jI_wA, if_neg (by omega)]), (F3.el ha2 id).trans (by rw [jL_wA, if_neg (by omega)]), (F3.er ha2 id).trans (by rw [jR_wA, if_neg (by omega)])⟩⟩
      have zero : jI h3 355 (G + 1) 0 = 0 := (F3.ei (by rw [jZ_wA]; omega) id).trans (by rw [jI_wA, if_pos (by omega)])
      have b31 : jI (wI (wR (wR (wR h3 350 (G + 1) 0 (Z + 1)) 351 (G + 1) 0 (Z + 3)) 352 (G + 1) 0 (G + 2)) 354 (G + 1) 0 1) 353 (wb x t) 0 = nI (tree l).length := by
        rw [jI_wI, if_neg (by omega), jI_wR, jI_wR, jI_wR, Fg3.ei (by omega) id]
        exact Tg.2.2.2.2.2.2.2.2.2.1
      refine ⟨(Fg3.ek (by omega)).trans Tg.1, kt3, ?_⟩
      rintro _ rfl _ rfl
      rw [b31]
      generalize hf : wI (wI (wI (wR (wR (wR h3 350 (G + 1) 0 (Z + 1)) 351 (G + 1) 0 (Z + 3)) 352 (G + 1) 0 (G + 2)) 354 (G + 1) 0 1) 353 (G + 1) 0 (nI (tree l).length)) 354 (G + 1) 0 0 = hf'
      have Ff : cF (fun _ a => a = G + 1) h3 hf' := by
        rw [← hf]
        have c1 : ∀ {g : jj_H} {tg i : Nat} {v : Int32}, cF (fun _ a => a = G + 1) g (wI g tg (G + 1) i v) := cF.wI rfl
        have c2 : ∀ {g : jj_H} {tg i v : Nat}, cF (fun _ a => a = G + 1) g (wR g tg (G + 1) i v) := cF.wR rfl
        exact ((((c2.trans c2 (fun _ _ _ q => q)).trans c2 (fun _ _ _ q => q)).trans c1 (fun _ _ _ q => q)).trans c1 (fun _ _ _ q => q)).trans c1 (fun _ _ _ q => q)
      have Zf : jZ hf' = G + 2 := by rw [← hf]; exact Z3
      have FF : nF g hf' := by
        refine ⟨by omega, fun a ha => ⟨(Ff.ek (by omega)).trans (Fg3.ek (by omega)), (Ff.en (by omega)).trans (Fg3.en (by omega)), fun tg i _ => ⟨(Ff.ei (by omega) (by omega)).trans (Fg3.ei (by omega) id), (Ff.el (by omega) (by omega)).trans (Fg3.el (by omega) id), (Ff.er (by omega) (by omega)).trans (Fg3.er (by omega) id)⟩⟩⟩
      have Fhf : cF (fun tg a => tg = 1000 ∧ a = x + 20) h hf' := F.trans FF (fun _ _ _ q => absurd q id)
      have wnf := fits hf' Fhf
      have wng : ∀ b, Wn hf' x b → Wn g x b := Wn.cf FF (by omega) (fun _ _ _ q => q)
      have sf : sF g hf' x m := sF.of FF (fun tg a s q => absurd q id) (fun b w => Or.inl (wng b w))
      have newSc : ∀ a, Z < a → a ≤ G + 2 → Sc hf' x m a := fun a h1 h2 => ⟨⟨by omega, by omega, fun w => by have := hW _ (wnf _ w); omega⟩, by omega⟩
      have Pof : PO hf' x m P1 := Po1.sf sf (fun β => FF.er (by omega) id)
      have t350 : jR hf' 350 (G + 1) 0 = Z + 1 := by
        rw [← hf]
        show jR (wR (wR (wR h3 350 (G + 1) 0 (Z + 1)) 351 (G + 1) 0 (Z + 3)) 352 (G + 1) 0 (G + 2)) 350 (G + 1) 0 = _
        rw [jR_wR, if_neg (by omega), jR_wR, if_neg (by omega), jR_wR, if_pos ⟨rfl, rfl, rfl⟩]
      have t351 : jR hf' 351 (G + 1) 0 = Z + 3 := by
        rw [← hf]
        show jR (wR (wR (wR h3 350 (G + 1) 0 (Z + 1)) 351 (G + 1) 0 (Z + 3)) 352 (G + 1) 0 (G + 2)) 351 (G + 1) 0 = _
        rw [jR_wR, if_neg (by omega), jR_wR, if_pos ⟨rfl, rfl, rfl⟩]
      have t352 : jR hf' 352 (G + 1) 0 = G + 2 := by
        rw [← hf]
        show jR (wR (wR (wR h3 350 (G + 1) 0 (Z + 1)) 351 (G + 1) 0 (Z + 3)) 352 (G + 1) 0 (G + 2)) 352 (G + 1) 0 = _
        rw [jR_wR, if_pos ⟨rfl, rfl, rfl⟩]
      have t353 : jI hf' 353 (G + 1) 0 = nI (tree l).length := by rw [← hf, jI_wI, if_neg (by omega), jI_wI, if_pos ⟨rfl, rfl, rfl⟩]
      have t354 : jI hf' 354 (G + 1) 0 = 0 := by rw [← hf, jI_wI, if_pos ⟨rfl, rfl, rfl⟩]
      have t355 : jI hf' 355 (G + 1) 0 = 0 := by
        rw [← hf, jI_wI, if_neg (by omega), jI_wI, if_neg (by omega), jI_wI, if_neg (by omega)]
        exact zero
      refine H hf' P1 (G + 1) Fhf wnf Pof sub1 (fun β p hβ hp => ?_) ?_ t355 (by omega)
      · rcases new1 β p hβ hp with z | ⟨y1, y2, y3⟩
        · exact Or.inl z
        · have hle := ((Po1 β hβ).1.mem p hp).1.1.2.1
          exact Or.inr ⟨(FF.ei hle id).trans y1, (FF.ei hle id).trans y2, y3⟩
      · refine ⟨newSc _ (by omega) (by omega), Z + 1, Z + 2, Z + 3, G + 2, newSc _ (by omega) (by omega), newSc _ (by omega) (by omega), newSc _ (by omega) (by omega), newSc _ (by omega) (by omega), t350, Rr_.cf FF (by omega) (by omega) id id id, t354, ?_⟩
        refine ⟨(Ff.ek (by omega)).trans kt3, t351, t352, (FF.ek (by omega)).trans kna, (Ff.ek (by omega)).trans k3, ?_, ?_, ?_, ?_, t353, fun lv hlv => ?_, fun i' nd hi' => ?_⟩
        · rw [Ff.en (by omega), n3]; omega
        · rw [Ff.en (by omega), n3]; omega
        · rw [FF.en (by omega), nna, htot]; omega
        · rw [FF.en (by omega), nna]; omega
        · rw [Ff.ei (by omega) (by omega), i3 lv (by omega), jI_wA, if_neg (by omega)]
          exact Tg.2.2.2.2.2.2.2.2.2.2.1 lv hlv
        · have hil := (List.getElem?_eq_some_iff.mp hi').1
          have pm := fil i' nd (by omega) hi'
          rw [FF.er (by omega) id]
          obtain ⟨sb, r', w', sr, sw, N⟩ := Pof.kn pm
          rw [← ent_nk (List.mem_of_getElem? hi')] at N
          exact ⟨r', w', ⟨pm, sb, sr, sw⟩, N⟩
    | succ q ih =>
      intro i g P1 bc bs hi hbc hbs F hZ Rr_ kna nna Po1 sub1 new1 fil
      obtain ⟨Tg, Rg⟩ := TT F (fun tg a q => ⟨q.1, Or.inl q.2⟩)
      have wn := fits g F
      have Mg : cM g x := M.cf F (by omega) (fun tg a q => by right; right; omega)
      have kzg : kZ g x m := ⟨z1, by omega, by omega, fun a h1 h2 h3 w => z4 a h1 h2 h3 (wn a w)⟩
      obtain ⟨nd, hnd⟩ : ∃ nd, (flat (tree l))[i]? = some nd := ⟨_, List.getElem?_eq_getElem (by omega)⟩
      obtain ⟨r0, w0, s0, N⟩ := Tg.2.2.2.2.2.2.2.2.2.2.2 i nd hnd
      obtain ⟨rfl, rfl⟩ := s0
      rw [ent_nk (List.mem_of_getElem? hnd)] at N
      refine jV_WP fun Vg => ?_
      -- a node is put into its place
      have put : ∀ (g2 : jj_H) (P2 : Pl) (b bc' bs' : Nat), q + 2 ≤ bc' → 9 * q + 15 ≤ bs' → cF (fun tg a => tg = 1000 ∧ a = x + 20) g g2 → PO g2 x m P2 → (∀ k a, (a, k) ∈ P1 (bk k) → (a, k) ∈ P2 (bk k)) → (∀ β p, β < 4096 → p ∈ P2 β → p ∈ P β ∨ (jI g2 157 p.1 0 = 0 ∧ jI g2 158 p.1 0 = 0 ∧ ∀ b, (b, p.2) ∉ P (bk p.2))) → (b, nk l nd) ∈ P2 (bk (nk l nd)) → jK g2 (Z + 3) = 25 ∧ (vp_in (nI i) (jN g2 (Z + 3)) ∧ ((b = 0 ∨ jK g2 b = 4) ∧ (∀ h21, h21 = wR g2 1000 (Z + 3) (Int32.toNatClampNeg (nI i)) b → (jj_WP d mX4_keepTable bc' bs' 34 [(0, .ref (x + 19)), (1, .ref (wb x t)), (2, .ref (Z + 1)), (3, .ref (Z + 3)), (4, .int (nI i + 1))] [] h21 Q)))) := by
        intro g2 P2 b bc' bs' hb1 hb2 F2 Po2 sub2 new2 pm
        have k2 : jK g2 (Z + 3) = 25 := (F2.ek (by omega)).trans kna
        have n2 : jN g2 (Z + 3) = tot := (F2.en (by omega)).trans nna
        obtain ⟨sb, r', w', sr, sw, N'⟩ := Po2.kn pm
        refine ⟨k2, by rw [n2]; exact vp_in_nI (by omega) (by omega), Or.inr N'.1, ?_⟩
        rintro _ rfl
        rw [q_clamp (by omega), qa_1]
        have Fw : cF (fun tg a => tg = 1000 ∧ a = Z + 3) g2 (wR g2 1000 (Z + 3) i b) := cF.wR ⟨rfl, rfl⟩
        have F02 : cF (fun tg a => tg = 1000 ∧ a = x + 20) h g2 := F.trans F2 (fun _ _ _ q => q)
        have F03 : cF (fun tg a => tg = 1000 ∧ a = x + 20) h (wR g2 1000 (Z + 3) i b) := F02.trans Fw (fun tg a ha q => by omega)
        have wn2 : ∀ c, Wn (wR g2 1000 (Z + 3) i b) x c → Wn g2 x c := Wn.cf Fw (by have := F02.1; omega) (fun a h1 h2 q => by omega)
        have hZ2 : Z + 3 ≤ jZ g2 := Nat.le_trans hZ F2.1
        have Po3 : PO (wR g2 1000 (Z + 3) i b) x m P2 := Po2.kf Fw (fun a s => s.cf Fw wn2) (fun tg a s q => by rw [q.2, k2]; exact Nat.le_refl _) (fun β => Fw.er (by omega) (by omega))
        refine ih (i + 1) _ P2 bc' bs' (by omega) hb1 hb2 F03 hZ2 ?_ k2 n2 Po3 (fun k a z => sub2 k a (sub1 k a z)) new2 (fun j nd' hj hj2 => ?_)
        · exact (Rr_.cf F2 (by omega) (by omega) (by omega) (by omega) (by omega)).cf Fw (by omega) (by omega) (by omega) (by omega) (by omega)
        · rw [jR_wR]
          by_cases e : j = i
          · subst e
            rw [if_pos ⟨rfl, rfl, rfl⟩]
            rw [hnd] at hj2
            cases hj2
            exact pm
          · rw [if_neg (by omega), F2.er (by omega) (by omega)]
            exact sub2 _ _ (fil j nd' (by omega) hj2)
      refine VX4_keepTable_34 _ _ _ _ _ ⟨kna, ?_⟩
      rw [nna, nI_leI (by omega) (by omega)]
      refine ⟨fun c => by omega, fun _ => ⟨Tg.1, by rw [Tg.2.1]; exact Tg.2.2.2.1, ?_⟩⟩
      rw [Tg.2.1]
      have na9 : jN g (wb x t + 3) = 202 := (F.en (by omega)).trans a10
      refine ⟨by rw [na9]; exact vp_in_nI (by omega) (by decide), cM_k19 Mg, ?_⟩
      rw [q_clamp (by omega)]
      refine c_pfind Mg Po1 N (fun b hb => ?_) (fun hno => ?_)
      · have nzb : b ≠ 0 := (Po1.kn hb).1.nz
        refine ⟨fun c => absurd c nzb, fun _ => ?_⟩
        have := put g P1 b bc bs (by omega) (by omega) cF.rf Po1 (fun _ _ z => z) new1 hb
        rw [q_clamp (by omega)] at this
        exact this
      · refine ⟨fun _ => ⟨Tg.1, by rw [Tg.2.1]; exact Tg.2.2.2.1, ?_⟩, fun c => absurd rfl c⟩
        rw [Tg.2.1]
        refine ⟨by rw [na9]; exact vp_in_nI (by omega) (by decide), cM_k19 Mg, by omega, by omega, ?_⟩
        have scn : ∀ a, Z < a → a ≤ jZ g → Sc g x m a := fun a h1 h2 => ⟨⟨by omega, h2, fun w => by have := hW _ (wn _ w); omega⟩, by omega⟩
        refine c_padd Mg kzg Vg Po1 N Rg Rr_ (scn _ (by omega) (by omega)) (scn _ (by omega) (by omega)) (fun b w => by have := hW b (wn b w); omega) hno fun g2 Po2 F2 i7 i8 k4 Z2 => ?_
        have := put g2 (uPl P1 (bk (nk l nd)) (jZ g + 1, nk l nd)) (jZ g + 1) (bc - 1) (bs - 9) (by omega) (by omega) F2 Po2 (fun k a z => uPl_mem z) (fun β p hβ hp => ?_) (by unfold uPl; rw [if_pos rfl]; exact List.mem_cons_self)
        · rw [q_clamp (by omega)] at this
          exact this
        · unfold uPl at hp
          have old : p ∈ P1 β → p ∈ P β ∨ (jI g2 157 p.1 0 = 0 ∧ jI g2 158 p.1 0 = 0 ∧ ∀ b, (b, p.2) ∉ P (bk p.2)) := fun z => by
            rcases new1 β p hβ z with y | ⟨y1, y2, y3⟩
            · exact Or.inl y
            · have hle := ((Po1 β hβ).1.mem p z).1.1.2.1
              exact Or.inr ⟨(F2.ei hle (by omega)).trans y1, (F2.ei hle (by omega)).trans y2, y3⟩
          by_cases e : β = bk (nk l nd)
          · rw [if_pos e] at hp
            rcases List.mem_cons.mp hp with z | z
            · right
              rw [z]
              exact ⟨i7, i8, fun b y => hno b (sub1 _ _ y)⟩
            · exact old z
          · rw [if_neg e] at hp
            exact old hp
  have F12 : nF h (wA h5 25 tot) := Fh5.trans cF.wA (fun _ _ _ q => q)
  have F12' : cF (fun tg a => tg = 1000 ∧ a = x + 20) h (wA h5 25 tot) := F12.mono (fun _ _ _ q => absurd q id)
  have sf12 : sF h (wA h5 25 tot) x m := sF.of F12 (fun tg a s q => absurd q id) (fun b w => Or.inl (fits _ F12' b w))
  have := loop tot 0 (wA h5 25 tot) P (208 - 1 - 1 - 1) (3000 - 2 - 800 - tot) (by omega) (by omega) (by omega) F12' (by rw [jZ_wA]; omega) (R5.cf (P := fun _ _ => False) cF.wA (by omega) (by omega) id id id) (by rw [jK_wA, if_pos (by omega)]) (by rw [jN_wA, if_pos (by omega)]) (Po.sf sf12 (fun β => F12.er (by omega) id)) (fun _ _ z => z) (fun β p _ hp => Or.inl hp) (fun j nd hj => by omega)
  exact this
end JKe
