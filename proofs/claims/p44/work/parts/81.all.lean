/-! all contracts hold -/
theorem rz_every {Tx : rz_Tx} (htx : rz_txm Tx) (htr : ∀ X, rz_txr X Tx) : ∀ (i : Nat) (k : rz_K), rz_kt.1 i = some k → rz_cval (rz_Xa (-1) 0) (rz_XRa (-1) 0) Tx k := by
  intro i k hk
  refine rz_cvals (rz_depa (-1) 0) (rz_depRa (-1) 0) (rz_XaR (-1) 0) htx (htr _) (fun j hj hv k2 hk2 => ?_) 269 i k (rz_kt_lt hk) hk
  have h2 : j = 74 ∨ j = 181 ∨ j = 185 ∨ j = 186 ∨ j = 187 ∨ j = 189 ∨ j = 194 ∨ j = 208 := (by decide : ∀ j ∈ rz_man, j = 74 ∨ j = 181 ∨ j = 185 ∨ j = 186 ∨ j = 187 ∨ j = 189 ∨ j = 194 ∨ j = 208) j hj
  have none1 : ∀ k2 : rz_K, ((1 : Int), ([] : List (Nat × Int))) ∈ k2.2.2.1.2.2.2.1 → rz_cval (rz_Xa (-1) 0) (rz_XRa (-1) 0) Tx k2 := by
    intro k2 hm l D cc as b ka C av sz va vb lv hs
    have := hs.2.2.2 _ hm
    exact absurd this (by show ¬ ((1 : Int) + 0 ≤ 0); decide)
  rcases h2 with h | h | h | h | h | h | h | h
  · subst h
    rw [(rfl : rz_kt.1 74 = some rz_k74)] at hk2
    cases hk2
    exact rz_bit_ok htx htr
  · subst h
    rw [(rfl : rz_kt.1 181 = some rz_k181)] at hk2
    cases hk2
    exact rz_goon_ok (-1) 0 htx (htr _)
  · subst h
    rw [(rfl : rz_kt.1 185 = some rz_k185)] at hk2
    cases hk2
    exact none1 _ List.mem_cons_self
  · subst h
    rw [(rfl : rz_kt.1 186 = some rz_k186)] at hk2
    cases hk2
    exact none1 _ List.mem_cons_self
  · subst h
    rw [(rfl : rz_kt.1 187 = some rz_k187)] at hk2
    cases hk2
    exact none1 _ List.mem_cons_self
  · subst h
    rw [(rfl : rz_kt.1 189 = some rz_k189)] at hk2
    cases hk2
    exact rz_school_ok htx htr hv
  · subst h
    rw [(rfl : rz_kt.1 194 = some rz_k194)] at hk2
    cases hk2
    exact rz_comes_ok (rz_depa (-1) 0) (fun C h => h.1.1.1) htx (htr _)
  · subst h
    rw [(rfl : rz_kt.1 208 = some rz_k208)] at hk2
    cases hk2
    exact rz_round_ok (rz_depa (-1) 0) (rz_depRa (-1) 0) (rz_XaR (-1) 0) htx htr hv
