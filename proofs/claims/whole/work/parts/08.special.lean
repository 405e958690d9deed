section WSPEC
variable {X : ww_X} {l0 : Launch} {Y : ww_Y} {ad : Nat → Nat} {G : List ww_L} {h nL pc : Nat} {cc : ByteArray} {own : String} {σ : ww_M} {lv : List (Nat × Value)} {st : List Value} {o : Option ww_R} {α : Type} {K : α → Option ww_R}
theorem ww_fillR (hC : ww_C X l0 Y ad G h cc nL own) {k n index : Nat} {x : Int32} (hG : G[k]? = some (.inr (.inl (0, n)))) (hn : n < 2147483648) (hlk : Cond.methodLink own index yJ7_fill_53178 ∈ ww_T) (hh : 2 ≤ h) (hs8 : (st.map fun v => v.category).sum ≤ 8) (hd : decode cc pc = .ok (.invokestatic index, 3)) (kk : ww_V X Y ad G nL (ww_fill σ k n x) (pc + 3) lv st o) : ww_V X Y ad G nL σ pc lv (.int x :: .ref (ad k) :: st) o := by
  sorry
theorem ww_copyR (hC : ww_C X l0 Y ad G h cc nL own) {k q n index : Nat} (hG : G[k]? = some (.inr (.inl (0, n)))) (hG2 : G[q]? = some (.inr (.inl (0, n)))) (hn : n < 2147483648) (hlk : Cond.methodLink own index yX2_copyAll ∈ ww_T) (hh : 2 ≤ h) (hs8 : (st.map fun v => v.category).sum ≤ 8) (hd : decode cc pc = .ok (.invokestatic index, 3)) (kk : ww_V X Y ad G nL (ww_cpy σ k q n) (pc + 3) lv st o) : ww_V X Y ad G nL σ pc lv (.ref (ad q) :: .ref (ad k) :: st) o := by
  sorry
theorem ww_strlen (hC : ww_C X l0 Y ad G h cc nL own) {i index : Nat} (hi : i < 6) (hlk : Cond.methodLink own index yJ0_length_8abf5 ∈ ww_T) (hh : 3 ≤ h) (hs8 : (st.map fun v => v.category).sum ≤ 8) (hd : decode cc pc = .ok (.invokevirtual index, 3)) (kk : ww_V X Y ad G nL σ (pc + 3) lv (.int (ww_slen i) :: st) o) : ww_V X Y ad G nL σ pc lv (.ref (Y.2.2.2 i) :: st) o := by
  sorry
theorem ww_strchr (hC : ww_C X l0 Y ad G h cc nL own) {E : Option α} {i index : Nat} {k : Int32} (hi : i < 6) (hlk : Cond.methodLink own index yJ0_charAt_5068e ∈ ww_T) (hh : 3 ≤ h) (hs8 : (st.map fun v => v.category).sum ≤ 8) (hd : decode cc pc = .ok (.invokevirtual index, 3)) (kk : ww_V X Y ad G nL σ (pc + 3) lv (.int (ww_schr i (ww_ix k)) :: st) (E.bind K)) : ww_V X Y ad G nL σ pc lv (.int k :: .ref (Y.2.2.2 i) :: st) ((ww_ck (ww_sin i k) E).bind K) := by
  sorry
end WSPEC
