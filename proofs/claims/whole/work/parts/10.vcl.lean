def jj_vi (F : Int32 → Prop) (v : Value) : Prop := match v with
  | .int x => F x
  | _ => False
def jj_vj (F : Int64 → Prop) (v : Value) : Prop := match v with
  | .long x => F x
  | _ => False
def jj_vr (F : Nat → Prop) (v : Value) : Prop := match v with
  | .ref x => F x
  | _ => False
section JV
variable {d : jj_D} {K : jj_M} {bc bs pc : Nat} {L : List (Nat × Value)} {st : List Value} {h : jj_H} {Q : Value → jj_H → Prop} {v : Value}
theorem jj_vi_e {F : Int32 → Prop} (k : ∀ x, F x → jj_WP d K bc bs pc L (.int x :: st) h Q) (H : jj_vi F v) : jj_WP d K bc bs pc L (v :: st) h Q := by
  cases v <;> first | exact k _ H | exact absurd H (by simp [jj_vi])
theorem jj_vj_e {F : Int64 → Prop} (k : ∀ x, F x → jj_WP d K bc bs pc L (.long x :: st) h Q) (H : jj_vj F v) : jj_WP d K bc bs pc L (v :: st) h Q := by
  cases v <;> first | exact k _ H | exact absurd H (by simp [jj_vj])
theorem jj_vr_e {F : Nat → Prop} (k : ∀ x, F x → jj_WP d K bc bs pc L (.ref x :: st) h Q) (H : jj_vr F v) : jj_WP d K bc bs pc L (v :: st) h Q := by
  cases v <;> first | exact k _ H | exact absurd H (by simp [jj_vr])
theorem jj_bud {cj sj : Nat} (h1 : cj ≤ bc) (h2 : sj ≤ bs) (k : jj_WP d K (bc - cj + cj) (bs - sj + sj) pc L st h Q) : jj_WP d K bc bs pc L st h Q := by
  rwa [Nat.sub_add_cancel h1, Nat.sub_add_cancel h2] at k
theorem jj_C.mono {as : List Value} {Q' : Value → jj_H → Prop} (H : jj_C K bc bs as h Q') (hq : ∀ v h, Q' v h → Q v h) : jj_C K bc bs as h Q := by
  intro l d p e ha hc hk s m args below hf happ hP hT
  obtain ⟨k, o, h1, h2, h3, ⟨⟨⟨v, h', e1, e2, e3⟩, e4⟩, e5⟩⟩ := H l d p e ha hc hk s m args below hf happ hP hT
  exact ⟨k, o, h1, h2, h3, ⟨⟨v, h', e1, hq v h' e2, e3⟩, e4⟩, e5⟩
theorem j_callV0 {K' : jj_M} {n ci idx a : Nat} {T : u_T} {N : Nat} {as stk : List Value} (cm : jj_cm K' n) (hi : Cond.instanceMethod K'.1 ∈ jj_tb) (hs : Cond.selects K'.1.cls K'.1 K'.1 ∈ jj_tb) (hcl : jj_cl[ci]? = some (K'.1.cls, T, N)) (hci : ci < 19) (hl : Cond.methodLink K.1.cls idx K'.1 ∈ jj_tb) (hR : jj_rm K' K) (dg : decode K.2.1 pc = .ok (.invokevirtual idx, 3)) (hn : as.length = n) (hstk : stk = as.reverse ++ .ref a :: st) (hro : (st.map fun v => v.category).sum ≤ 8) (hk : jK h a = ci + 1)
    (k : jj_C K' 0 0 (.ref a :: as) h (fun v h1 => jj_WP d K bc bs (pc + 3) L (jj_pu K'.2.2.2.1 v st) h1 Q)) : jj_WP d K bc bs pc L stk h Q := j_callV (cj := 0) (sj := 0) cm hi hs hcl hci hl hR dg hn hstk hro hk k
theorem j_callS0 {K' : jj_M} {n idx : Nat} {as stk : List Value} (cm : jj_cm K' n) (hi : Cond.static K'.1 ∈ jj_tb) (hl : Cond.methodLink K.1.cls idx K'.1 ∈ jj_tb) (hR : jj_rm K' K) (dg : decode K.2.1 pc = .ok (.invokestatic idx, 3)) (hn : as.length = n) (hstk : stk = as.reverse ++ st) (hro : (st.map fun v => v.category).sum ≤ 8)
    (k : jj_C K' 0 0 as h (fun v h1 => jj_WP d K bc bs (pc + 3) L (jj_pu K'.2.2.2.1 v st) h1 Q)) : jj_WP d K bc bs pc L stk h Q := j_callS (cj := 0) (sj := 0) cm hi hl hR dg hn hstk hro k
theorem j_callSN0 {K' : jj_M} {n idx : Nat} {host : String} {as stk : List Value} (cm : jj_cm K' n) (hi : Cond.static K'.1 ∈ jj_tb) (hl : (K.1.cls, idx, K'.1, host) ∈ jj_nl) (hR : jj_rm K' K) (dg : decode K.2.1 pc = .ok (.invokestatic idx, 3)) (hn : as.length = n) (hstk : stk = as.reverse ++ st) (hro : (st.map fun v => v.category).sum ≤ 8)
    (k : jj_C K' 0 0 as h (fun v h1 => jj_WP d K bc bs (pc + 3) L (jj_pu K'.2.2.2.1 v st) h1 Q)) : jj_WP d K bc bs pc L stk h Q := j_callSN (cj := 0) (sj := 0) cm hi hl hR dg hn hstk hro k
theorem j_callI0 {K' : jj_M} {n idx a : Nat} {as stk : List Value} (cm : jj_cm K' n) (hi : Cond.instanceMethod K'.1 ∈ jj_tb) (hy : K'.1.name = "<init>") (hr0 : K'.2.2.2.1 = none) (hl : Cond.methodLink K.1.cls idx K'.1 ∈ jj_tb) (hR : jj_rm K' K) (dg : decode K.2.1 pc = .ok (.invokespecial idx, 3)) (hn : as.length = n) (hstk : stk = as.reverse ++ .ref a :: st) (hro : (st.map fun v => v.category).sum ≤ 8) (ha : a ≠ 0)
    (k : jj_C K' 0 0 (.ref a :: as) h (fun v h1 => jj_WP d K bc bs (pc + 3) L (jj_pu K'.2.2.2.1 v st) h1 Q)) : jj_WP d K bc bs pc L stk h Q := j_callI (cj := 0) (sj := 0) cm hi hy hr0 hl hR dg hn hstk hro ha k
theorem j_callIN0 {K' : jj_M} {n idx a : Nat} {host : String} {as stk : List Value} (cm : jj_cm K' n) (hi : Cond.instanceMethod K'.1 ∈ jj_tb) (hy : K'.1.name = "<init>") (hr0 : K'.2.2.2.1 = none) (hl : (K.1.cls, idx, K'.1, host) ∈ jj_nl) (hR : jj_rm K' K) (dg : decode K.2.1 pc = .ok (.invokespecial idx, 3)) (hn : as.length = n) (hstk : stk = as.reverse ++ .ref a :: st) (hro : (st.map fun v => v.category).sum ≤ 8) (ha : a ≠ 0)
    (k : jj_C K' 0 0 (.ref a :: as) h (fun v h1 => jj_WP d K bc bs (pc + 3) L (jj_pu K'.2.2.2.1 v st) h1 Q)) : jj_WP d K bc bs pc L stk h Q := j_callIN (cj := 0) (sj := 0) cm hi hy hr0 hl hR dg hn hstk hro ha k
end JV
