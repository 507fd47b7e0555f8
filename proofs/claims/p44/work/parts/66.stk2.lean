/-! one step of the reader, as the world sees it -/
theorem rz_GA1 {C : rz_W} (hG : rz_G C) {p t n : Nat} {lo hi : Int} (h : rz_num p = some (t, n, 1, [[(lo, hi)]])) {j : Nat} (hj : j < n) : lo ≤ C.2 p j ∧ C.2 p j ≤ hi := by
  obtain ⟨r, mr, hr⟩ := hG.2.2.1 p _ h j (by show j * 1 < n; omega)
  have mr := List.mem_singleton.mp mr
  subst mr
  have hr := hr 0 _ rfl
  have e : j * 1 + 0 = j := by omega
  have hr : lo ≤ C.2 p (j * 1 + 0) ∧ C.2 p (j * 1 + 0) ≤ hi := hr
  rw [e] at hr
  exact hr
theorem rz_push_ok {ν θ θ1 : Int} {a : Nat} {C C3 : rz_W} (hF : rz_FIN ν θ a C) (hS : rz_STK a 1 C) {q du : Int} (hq : q = 3 ∨ q = 7) (hX3 : rz_Xa ν θ1 C3) (hθ : θ ≤ θ1) (e1 : C3.1 13731 = C.1 13731 + 1) (e2 : C3.1 13730 = C.1 13730 + 1) (hw : C.1 13730 ≤ 6) (e3 : C3.1 13732 = C.1 13732 + du) (hd : 0 ≤ du) (hu : C.1 13732 + du ≤ 30) (e4 : C3.1 13729 = C.1 13729) (e5 : C3.1 13728 = C.1 13728) (c1 : C3.2 125 = C.2 125) (c2 : C3.2 127 = rz_set (C.2 127) (C.1 13731).toNat q) (c3 : C3.2 128 = rz_set (C.2 128) (C.1 13731).toNat 126) (hΦ : rz_cd C + 4 * C.1 13731 ≤ θ1) : rz_FIN ν θ a C3 ∧ rz_STK a 1 C3 ∧ rz_ms C3 1 + 1 ≤ rz_ms C 1 := by
  obtain ⟨f1, f2, f3⟩ := hF
  obtain ⟨s1, s2, s3, s4, s5, s6, s7, s8, s9⟩ := hS
  have hcd : rz_cd C3 = rz_cd C := by unfold rz_cd; rw [e4, e5]
  have hX4 := hX3.2.2.1
  refine ⟨⟨rz_Xa_le hX3 hθ, by rw [e4]; exact f2, by rw [c1, e4]; exact f3⟩, ⟨by omega, ?_, ?_, ?_, by omega, ?_, by omega, by omega, by omega⟩, ?_⟩
  · rw [c2, rz_set_ne (by omega)]
    exact s2
  · intro k h1 h2
    rw [c2, c3]
    by_cases hk : k = (C.1 13731).toNat
    · subst hk
      rw [rz_set_eq, rz_set_eq]
      refine ⟨by omega, fun _ => rfl, fun h3 h7 => ?_⟩
      rcases hq with z | z
      · exact absurd z h3
      · exact absurd z h7
    · rw [rz_set_ne hk, rz_set_ne hk]
      exact s3 k h1 (by omega)
  · rw [c2, e1, e2, s4]
    have e9 : (C.1 13731 + 1).toNat = (C.1 13731).toNat + 1 := by omega
    rw [e9]
    show _ = rz_cnt (rz_set (C.2 127) (C.1 13731).toNat q) (C.1 13731).toNat + (if rz_set (C.2 127) (C.1 13731).toNat q (C.1 13731).toNat = 3 ∨ rz_set (C.2 127) (C.1 13731).toNat q (C.1 13731).toNat = 7 then 1 else 0)
    rw [rz_set_eq, if_pos hq, rz_cnt_congr (f := C.2 127) _ (fun j hj => rz_set_ne (by omega))]
  · rw [c1, e4]
    omega
  · unfold rz_ms
    rw [if_pos rfl, if_pos rfl]
    omega
theorem rz_val_ok {ν θ θ1 : Int} {a : Nat} {C C3 : rz_W} (hF : rz_FIN ν θ a C) (hS : rz_STK a 1 C) {ch : Int} (hch : rz_let ch) (hX3 : rz_Xa ν θ1 C3) (hθ : θ ≤ θ1) (hp : C.1 13731 ≤ 38) (h0 : 0 ≤ C.1 13729) (e1 : C3.1 13731 = C.1 13731) (e2 : C3.1 13730 = C.1 13730) (e3 : C3.1 13732 = C.1 13732 + 1) (hu : C.1 13732 + 1 ≤ 30) (e4 : C3.1 13729 = C.1 13729 + 1) (e5 : C3.1 13728 = C.1 13728) (c1 : C3.2 125 = rz_set (C.2 125) (C.1 13729).toNat ch) (c2 : C3.2 127 = C.2 127) (c3 : C3.2 128 = C.2 128) (hΦ : rz_cd C + 4 * (C.1 13731 - 1) + 8 ≤ θ1) : rz_FIN ν θ a C3 ∧ rz_STK a 0 C3 ∧ rz_ms C3 0 + 1 ≤ rz_ms C 1 := by
  obtain ⟨f1, f2, f3⟩ := hF
  obtain ⟨s1, s2, s3, s4, s5, s6, s7, s8, s9⟩ := hS
  have hcd : rz_cd C3 = rz_cd C + 4 := by unfold rz_cd; rw [e4, e5]; omega
  have hX4 := hX3.2.2.1
  have hn : rz_nd ch = 0 := by
    unfold rz_nd
    unfold rz_let at hch
    rw [if_neg (by omega), if_pos hch]
  have hdl : rz_dl ch = 1 := by
    unfold rz_dl
    unfold rz_let at hch
    rw [if_neg (by omega), if_pos hch]
  obtain ⟨o1, o2⟩ := rz_okc_emit (ch := ch) f3 (by omega) (by rw [hn]; exact (rz_okc_b f3 _ (by omega)).1) (fun _ => by omega)
  have e6 : (C.1 13729 + 1).toNat = (C.1 13729).toNat + 1 := by omega
  have hcn := rz_cnt_nn (C.2 127) (C.1 13731).toNat
  refine ⟨⟨rz_Xa_le hX3 hθ, by omega, by rw [c1, e4, e6]; exact o1⟩, ⟨by omega, by rw [c2]; exact s2, fun k h1 h2 => ?_, by rw [c2, e1, e2]; exact s4, by omega, ?_, by omega, by omega, by omega⟩, ?_⟩
  · rw [c2, c3]
    exact s3 k h1 (by omega)
  · rw [c1, e4, e6, o2, hdl]
    omega
  · unfold rz_ms
    rw [if_pos rfl, if_neg (by decide)]
    omega
/-- one is taken off: a turn, or two made one -/
theorem rz_pop_ok9 {ν θ θ1 : Int} {a : Nat} {C C3 : rz_W} (hF : rz_FIN ν θ a C) (hS : rz_STK a 0 C) {t s d : Int} (ht : C.2 127 (C.1 13731 - 1).toNat = t) (hs : C.2 128 (C.1 13731 - 1).toNat = s) (hp2 : 2 ≤ C.1 13731) (ht6 : t ≤ 6) (hd : (t = 3 ∧ d = 1) ∨ (¬ t = 3 ∧ d = 0)) (hX3 : rz_Xa ν θ1 C3) (hθ : θ ≤ θ1) (h0 : 0 ≤ C.1 13729) (e1 : C3.1 13731 = C.1 13731 - 1) (e2 : C3.1 13730 = C.1 13730 - d) (e3 : C3.1 13732 = C.1 13732) (e4 : C3.1 13729 = C.1 13729 + 1) (e5 : C3.1 13728 = C.1 13728) (c1 : C3.2 125 = rz_set (C.2 125) (C.1 13729).toNat s) (c2 : C3.2 127 = C.2 127) (c3 : C3.2 128 = C.2 128) (hΦ : rz_cd C + 4 * (C.1 13731 - 1) + 4 ≤ θ1) : rz_FIN ν θ a C3 ∧ rz_STK a 0 C3 ∧ rz_ms C3 0 + 1 ≤ rz_ms C 0 := by
  obtain ⟨f1, f2, f3⟩ := hF
  obtain ⟨s1, s2, s3, s4, s5, s6, s7, s8, s9⟩ := hS
  have hcd : rz_cd C3 = rz_cd C + 4 := by unfold rz_cd; rw [e4, e5]; omega
  have hX4 := hX3.2.2.1
  obtain ⟨n1, n2, n3⟩ := s3 (C.1 13731 - 1).toNat (by omega) (by omega)
  rw [ht, hs] at n2 n3
  rw [ht] at n1
  have ec : (C.1 13731).toNat = (C.1 13731 - 1).toNat + 1 := by omega
  have hcn := rz_cnt_nn (C.2 127) (C.1 13731 - 1).toNat
  have hcnt : rz_cnt (C.2 127) (C.1 13731).toNat = rz_cnt (C.2 127) (C.1 13731 - 1).toNat + d := by
    rw [ec]
    show rz_cnt (C.2 127) (C.1 13731 - 1).toNat + (if C.2 127 (C.1 13731 - 1).toNat = 3 ∨ C.2 127 (C.1 13731 - 1).toNat = 7 then 1 else 0) = _
    rw [ht]
    rcases hd with z | z
    · rw [if_pos (Or.inl z.1), z.2]
    · rw [if_neg (by omega), z.2]
  have hdp : rz_nd s ≤ rz_dp (C.2 125) a ((C.1 13729).toNat - a) ∧ (rz_let s → rz_dp (C.2 125) a ((C.1 13729).toNat - a) < 60) ∧ rz_dl s = d - 1 := by
    rw [s6]
    rcases hd with z | z
    · have hs126 := n2 z.1
      unfold rz_nd rz_dl rz_let
      rw [if_pos hs126, if_pos hs126, hs126]
      refine ⟨?_, fun h => by omega, by omega⟩
      have h9 : rz_cnt (C.2 127) (C.1 13731 - 1).toNat + 1 ≤ C.1 13731 - 1 := by
        have key : ∀ n : Nat, 1 ≤ n → (n : Int) ≤ C.1 13731 → rz_cnt (C.2 127) n + 1 ≤ (n : Int) := by
          intro n
          induction n with
          | zero => intro h; omega
          | succ n ih =>
            intro _ h
            show rz_cnt (C.2 127) n + (if C.2 127 n = 3 ∨ C.2 127 n = 7 then 1 else 0) + 1 ≤ ((n + 1 : Nat) : Int)
            by_cases hn : n = 0
            · subst hn
              rw [s2, if_neg (by decide)]
              show (0 : Int) + 0 + 1 ≤ 1
              decide
            · have := ih (by omega) (by omega)
              split <;> omega
        have := key (C.1 13731 - 1).toNat (by omega) (by omega)
        omega
      omega
    · obtain ⟨w1, w2⟩ := n3 z.1 (by omega)
      unfold rz_let at w2
      unfold rz_nd rz_dl rz_let
      rw [if_neg w1, if_neg w2, if_neg w1, if_neg w2]
      refine ⟨?_, fun h => absurd h w2, by omega⟩
      have h9 : rz_cnt (C.2 127) (C.1 13731 - 1).toNat + 1 ≤ C.1 13731 - 1 := by
        have key : ∀ n : Nat, 1 ≤ n → (n : Int) ≤ C.1 13731 → rz_cnt (C.2 127) n + 1 ≤ (n : Int) := by
          intro n
          induction n with
          | zero => intro h; omega
          | succ n ih =>
            intro _ h
            show rz_cnt (C.2 127) n + (if C.2 127 n = 3 ∨ C.2 127 n = 7 then 1 else 0) + 1 ≤ ((n + 1 : Nat) : Int)
            by_cases hn : n = 0
            · subst hn
              rw [s2, if_neg (by decide)]
              show (0 : Int) + 0 + 1 ≤ 1
              decide
            · have := ih (by omega) (by omega)
              split <;> omega
        have := key (C.1 13731 - 1).toNat (by omega) (by omega)
        omega
      omega
  obtain ⟨o1, o2⟩ := rz_okc_emit (ch := s) f3 (by omega) hdp.1 hdp.2.1
  have e6 : (C.1 13729 + 1).toNat = (C.1 13729).toNat + 1 := by omega
  refine ⟨⟨rz_Xa_le hX3 hθ, by omega, by rw [c1, e4, e6]; exact o1⟩, ⟨by omega, by rw [c2]; exact s2, fun k h1 h2 => ?_, by rw [c2, e1, e2]; omega, by omega, ?_, by omega, by omega, by omega⟩, ?_⟩
  · rw [c2, c3]
    exact s3 k h1 (by omega)
  · rw [c1, e4, e6, o2, hdp.2.2]
    omega
  · unfold rz_ms
    rw [if_neg (by decide), if_neg (by decide)]
    omega
