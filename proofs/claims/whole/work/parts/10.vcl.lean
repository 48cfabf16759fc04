def jj_vi (F : Int32 → Prop) (v : Value) : Prop := match v with
  | .int x => F x
  | _ => False
def jj_vj (F : Int64 → Prop) (v : Value) : Prop := match v with
  | .long x => F x
  | _ => False
def jj_vr (F : Nat → Prop) (v : Value) : Prop := match v with
  | .ref x => F x
  | _ => False
section JV
variable {d : jj_D} {K : jj_M} {bc bs pc : Nat} {L : List (Nat × Value)} {st : List Value} {h : jj_H} {Q : Value → jj_H → Prop} {v : Value}
theorem jj_vi_e {F : Int32 → Prop} (k : ∀ x, F x → jj_WP d K bc bs pc L (.int x :: st) h Q) (H : jj_vi F v) : jj_WP d K bc bs pc L (v :: st) h Q := by
  cases v <;> first | exact k _ H | exact absurd H (by simp [jj_vi])
theorem jj_vj_e {F : Int64 → Prop} (k : ∀ x, F x → jj_WP d K bc bs pc L (.long x :: st) h Q) (H : jj_vj F v) : jj_WP d K bc bs pc L (v :: st) h Q := by
  cases v <;> first | exact k _ H | exact absurd H (by simp [jj_vj])
theorem jj_vr_e {F : Nat → Prop} (k : ∀ x, F x → jj_WP d K bc bs pc L (.ref x :: st) h Q) (H : jj_vr F v) : jj_WP d K bc bs pc L (v :: st) h Q := by
  cases v <;> first | exact k _ H | exact absurd H (by simp [jj_vr])
theorem jj_bud {cj sj : Nat} (h1 : cj ≤ bc) (h2 : sj ≤ bs) (k : jj_WP d K (bc - cj + cj) (bs - sj + sj) pc L st h Q) : jj_WP d K bc bs pc L st h Q := by
  rwa [Nat.sub_add_cancel h1, Nat.sub_add_cancel h2] at k
theorem jj_C.mono {as : List Value} {Q' : Value → jj_H → Prop} (H : jj_C K bc bs as h Q') (hq : ∀ v h, Q' v h → Q v h) : jj_C K bc bs as h Q := by
  intro l d p e ha hc hk s m args below hf happ hP hT
  obtain ⟨k, o, h1, h2, h3, ⟨⟨⟨v, h', e1, e2, e3⟩, e4⟩, e5⟩⟩ := H l d p e ha hc hk s m args below hf happ hP hT
  exact ⟨k, o, h1, h2, h3, ⟨⟨v, h', e1, hq v h' e2, e3⟩, e4⟩, e5⟩
end JV
