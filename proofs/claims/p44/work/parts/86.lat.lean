/-! later, of both: the same of the same -/
def rz_bad (t d : Int) : Prop := d < 0 ∨ 1000 < d ∨ 100000 < t + d
def rz_PLt (k : Nat) (C : rz_W) (d r : Int) (t : Int) : Option Value → rz_W → Prop := fun v C1 => ∃ x : Int32, v = some (.int x) ∧ x.toInt = r ∧ C1.1 k = t ∧ rz_G C1 ∧ rz_tb C1 ∧ rz_out1 [k] 0 C C1
theorem rz_mw36 : rx_mw 36 = true := rx_mw_ks 36 (rx_ks1_in 36 (by decide) (by decide))
set_option maxHeartbeats 1000000 in
theorem rz_latx {Tx : rz_Tx} (htx : rz_txm Tx) (htr : ∀ X, rz_txr X Tx) {l : Launch} {D : va_G} {cc : Nat → ClassId} {as : Nat → Nat} {ka sz : Nat} {C : rz_W} {d : Int32} {r t : Int} (hG : rz_G C) (hT : rz_tb C) (h1 : rz_bad (C.1 6661) d.toInt → r = -1 ∧ t = C.1 6661) (h2 : ¬ rz_bad (C.1 6661) d.toInt → r = C.1 6661 + d.toInt ∧ t = C.1 6661 + d.toInt) : rz_MetP (Tx ka) l D cc as C sz 36 2 [.ref (as 0), .int d] (rz_PLt 6661 C d.toInt r t) := by
  refine rz_metW (mj := 36) (lvl := 2) rz_mw36 (Nat.le_trans (Nat.le_of_eq rfl) (by decide +kernel : 2 ≤ rx_ml 36)) ?_
  intro p e s m below meth c ls hsz hF hW hlv hr hlk
  have hlv : lv_has ls (rx_ml 36) [(0, .ref (as 0)), (1, .int d)] := hlv
  have gt : 0 ≤ C.1 6661 ∧ C.1 6661 ≤ 100000 := rz_krG hG 6661 (r := (0, 0, 100000)) rfl
  have gd := rx_bds d
  have gd : -2147483648 ≤ d.toInt ∧ d.toInt ≤ 2147483647 := gd
  unfold rz_bad at h1 h2
  have bad : ∀ (T : rz_T) (g : List rz_Tg) (vb : List Int), rz_seg rz_kt rz_cxlqx 100000 2 0 T [] [] g = true → (∀ t2 ∈ g, t2.2.1 = true ∧ t2.2.2.1 = rz_tvxb ∧ t2.2.2.2.1 = [] ∧ t2.2.2.2.2.1 = [] ∧ t2.2.2.2.2.2 = 0) → rz_sat as 0 ka T [] [d.toInt] vb [(0, .ref (as 0)), (1, .int d)] C → r = -1 → t = C.1 6661 → W p l e (rz_rm 2) s m #[Value.ref (as 0), Value.int d] below meth c s.heap [] 0 0 (MQ below (rz_Qc D cc as (rz_ws cc as C) sz (rz_PLt 6661 C d.toInt r t)) #[Value.ref (as 0), Value.int d] s 0 0 (va_A (rz_ws cc as C) sz)) (F0 m 0 ls []) := by
    intro T g vb hck hg hsat er et
    refine rz_seg_ok (b := 0) rz_depT rz_depRT (fun _ _ => trivial) htx (htr _) hck (rz_v0 _) (by decide) (by decide +kernel) hF hr hlk hsat (fun _ h => absurd h List.not_mem_nil) hG trivial hT hW hlv ?_ ?_
    · intro t2 mt h9
      rw [(hg t2 mt).1] at h9
      cases h9
    · intro t2 mt _ C1 v lv1 ht hv1 _
      obtain ⟨-, g2, g3, g4, g5⟩ := hg t2 mt
      have e1 := rz_out1_eq (rz_tk_out (S := []) (T := 0) ht g3 rfl (by rw [g4]; rfl) rfl (by rw [g5]; rfl))
      obtain ⟨va2, vb2, hs2, -⟩ := ht
      rw [g2] at hs2
      have hs2 : rz_sat as 0 ka rz_tvxb [] va2 vb2 lv1 C1 := hs2
      obtain ⟨xv, rfl, rfl, rfl, h⟩ := rz_tvxb_E hs2
      rw [e1]
      exact ⟨xv, hv1 (1000, .int xv) List.mem_cons_self rfl, by omega, et.symm, hG, hT, ⟨fun _ _ => rfl, fun _ _ => rfl⟩⟩
  by_cases c1 : d.toInt < 0
  · obtain ⟨er, et⟩ := h1 (Or.inl c1)
    exact bad rz_tvxa0 rz_gvxa _ rz_hvxa (by intro t2 mt; unfold rz_gvxa at mt; simp only [List.mem_cons, List.not_mem_nil, or_false] at mt; rcases mt with mt | mt <;> (rw [mt]; exact ⟨rfl, rfl, rfl, rfl, rfl⟩)) (rz_tvxa0_I (by omega)) er et
  · by_cases c2 : 1000 < d.toInt
    · obtain ⟨er, et⟩ := h1 (Or.inr (Or.inl c2))
      exact bad rz_tvxb0 rz_gvxb _ rz_hvxb (by intro t2 mt; unfold rz_gvxb at mt; simp only [List.mem_cons, List.not_mem_nil, or_false] at mt; rcases mt with mt | mt <;> (rw [mt]; exact ⟨rfl, rfl, rfl, rfl, rfl⟩)) (rz_tvxb0_I (by omega)) er et
    · by_cases c3 : 100000 < C.1 6661 + d.toInt
      · obtain ⟨er, et⟩ := h1 (Or.inr (Or.inr c3))
        exact bad rz_tvxc0 rz_gvxc _ rz_hvxc (by intro t2 mt; unfold rz_gvxc at mt; simp only [List.mem_cons, List.not_mem_nil, or_false] at mt; rcases mt with mt | mt <;> (rw [mt]; exact ⟨rfl, rfl, rfl, rfl, rfl⟩)) (rz_tvxc0_I (by omega)) er et
      · obtain ⟨er, et⟩ := h2 (by omega)
        refine rz_seg_ok (b := 0) rz_depT rz_depRT (fun _ _ => trivial) htx (htr _) rz_hvxg (rz_v0 _) (by decide) (by decide +kernel) hF hr hlk (rz_tvxg0_I (x_d := d) (by omega)) (fun _ h => absurd h List.not_mem_nil) hG trivial hT hW hlv ?_ ?_
        · intro t2 mt h9
          have hg : ∀ t2 ∈ rz_gvxg, t2.2.1 = true := (by intro t2 mt; unfold rz_gvxg at mt; simp only [List.mem_cons, List.not_mem_nil, or_false] at mt; rcases mt with mt | mt <;> (rw [mt]))
          rw [hg t2 mt] at h9
          cases h9
        · intro t2 mt _ C1 v lv1 ht hv1 _
          have hg : ∀ t2 ∈ rz_gvxg, t2.2.2.1 = rz_tvxg ∧ t2.2.2.2.1 = [] ∧ t2.2.2.2.2.1 = [nat_lit 6661] ∧ t2.2.2.2.2.2 = 0 := (by intro t2 mt; unfold rz_gvxg at mt; simp only [List.mem_cons, List.not_mem_nil, or_false] at mt; rcases mt with mt | mt <;> (rw [mt]; exact ⟨rfl, rfl, rfl, rfl⟩))
          obtain ⟨g2, g3, g4, g5⟩ := hg t2 mt
          have ho := rz_tk_out (S := [6661]) (T := 0) ht g3 rfl (by rw [g4]; decide +kernel) rfl (by rw [g5]; rfl)
          obtain ⟨va2, vb2, hs2, hG1, hT1, -, -⟩ := ht
          rw [g2] at hs2
          have hs2 : rz_sat as 0 ka rz_tvxg [C.1 6661, d.toInt] va2 vb2 lv1 C1 := hs2
          obtain ⟨xv, rfl, rfl, rfl, h⟩ := rz_tvxg_E hs2
          exact ⟨xv, hv1 (1000, .int xv) List.mem_cons_self rfl, by omega, by omega, hG1, hT1, ho⟩
theorem rz_mw246 : rx_mw 246 = true := rx_mw_ks 246 (rx_ks1_in 246 (by decide) (by decide))
set_option maxHeartbeats 1000000 in
theorem rz_latm {Tx : rz_Tx} (htx : rz_txm Tx) (htr : ∀ X, rz_txr X Tx) {l : Launch} {D : va_G} {cc : Nat → ClassId} {as : Nat → Nat} {ka sz : Nat} {C : rz_W} {d : Int32} {r t : Int} (hG : rz_G C) (hT : rz_tb C) (h1 : rz_bad (C.1 13755) d.toInt → r = -1 ∧ t = C.1 13755) (h2 : ¬ rz_bad (C.1 13755) d.toInt → r = C.1 13755 + d.toInt ∧ t = C.1 13755 + d.toInt) : rz_MetP (Tx ka) l D cc as C sz 246 3 [.ref (as 107), .int d] (rz_PLt 13755 C d.toInt r t) := by
  refine rz_metW (mj := 246) (lvl := 3) rz_mw246 (Nat.le_trans (Nat.le_of_eq rfl) (by decide +kernel : 2 ≤ rx_ml 246)) ?_
  intro p e s m below meth c ls hsz hF hW hlv hr hlk
  have hlv : lv_has ls (rx_ml 246) [(0, .ref (as 107)), (1, .int d)] := hlv
  have gt : 0 ≤ C.1 13755 ∧ C.1 13755 ≤ 100000 := rz_krG hG 13755 (r := (0, 0, 100000)) rfl
  have gd := rx_bds d
  have gd : -2147483648 ≤ d.toInt ∧ d.toInt ≤ 2147483647 := gd
  unfold rz_bad at h1 h2
  have bad : ∀ (T : rz_T) (g : List rz_Tg) (vb : List Int), rz_seg rz_kt rz_cxlqm 100000 3 0 T [] [] g = true → (∀ t2 ∈ g, t2.2.1 = true ∧ t2.2.2.1 = rz_tvmb ∧ t2.2.2.2.1 = [] ∧ t2.2.2.2.2.1 = [] ∧ t2.2.2.2.2.2 = 0) → rz_sat as 0 ka T [] [d.toInt] vb [(0, .ref (as 107)), (1, .int d)] C → r = -1 → t = C.1 13755 → W p l e (rz_rm 3) s m #[Value.ref (as 107), Value.int d] below meth c s.heap [] 0 0 (MQ below (rz_Qc D cc as (rz_ws cc as C) sz (rz_PLt 13755 C d.toInt r t)) #[Value.ref (as 107), Value.int d] s 0 0 (va_A (rz_ws cc as C) sz)) (F0 m 0 ls []) := by
    intro T g vb hck hg hsat er et
    refine rz_seg_ok (b := 0) rz_depT rz_depRT (fun _ _ => trivial) htx (htr _) hck (rz_v0 _) (by decide) (by decide +kernel) hF hr hlk hsat (fun _ h => absurd h List.not_mem_nil) hG trivial hT hW hlv ?_ ?_
    · intro t2 mt h9
      rw [(hg t2 mt).1] at h9
      cases h9
    · intro t2 mt _ C1 v lv1 ht hv1 _
      obtain ⟨-, g2, g3, g4, g5⟩ := hg t2 mt
      have e1 := rz_out1_eq (rz_tk_out (S := []) (T := 0) ht g3 rfl (by rw [g4]; rfl) rfl (by rw [g5]; rfl))
      obtain ⟨va2, vb2, hs2, -⟩ := ht
      rw [g2] at hs2
      have hs2 : rz_sat as 0 ka rz_tvmb [] va2 vb2 lv1 C1 := hs2
      obtain ⟨xv, rfl, rfl, rfl, h⟩ := rz_tvmb_E hs2
      rw [e1]
      exact ⟨xv, hv1 (1000, .int xv) List.mem_cons_self rfl, by omega, et.symm, hG, hT, ⟨fun _ _ => rfl, fun _ _ => rfl⟩⟩
  by_cases c1 : d.toInt < 0
  · obtain ⟨er, et⟩ := h1 (Or.inl c1)
    exact bad rz_tvma0 rz_gvma _ rz_hvma (by intro t2 mt; unfold rz_gvma at mt; simp only [List.mem_cons, List.not_mem_nil, or_false] at mt; rcases mt with mt | mt <;> (rw [mt]; exact ⟨rfl, rfl, rfl, rfl, rfl⟩)) (rz_tvma0_I (by omega)) er et
  · by_cases c2 : 1000 < d.toInt
    · obtain ⟨er, et⟩ := h1 (Or.inr (Or.inl c2))
      exact bad rz_tvmb0 rz_gvmb _ rz_hvmb (by intro t2 mt; unfold rz_gvmb at mt; simp only [List.mem_cons, List.not_mem_nil, or_false] at mt; rcases mt with mt | mt <;> (rw [mt]; exact ⟨rfl, rfl, rfl, rfl, rfl⟩)) (rz_tvmb0_I (by omega)) er et
    · by_cases c3 : 100000 < C.1 13755 + d.toInt
      · obtain ⟨er, et⟩ := h1 (Or.inr (Or.inr c3))
        exact bad rz_tvmc0 rz_gvmc _ rz_hvmc (by intro t2 mt; unfold rz_gvmc at mt; simp only [List.mem_cons, List.not_mem_nil, or_false] at mt; rcases mt with mt | mt <;> (rw [mt]; exact ⟨rfl, rfl, rfl, rfl, rfl⟩)) (rz_tvmc0_I (by omega)) er et
      · obtain ⟨er, et⟩ := h2 (by omega)
        refine rz_seg_ok (b := 0) rz_depT rz_depRT (fun _ _ => trivial) htx (htr _) rz_hvmg (rz_v0 _) (by decide) (by decide +kernel) hF hr hlk (rz_tvmg0_I (x_d := d) (by omega)) (fun _ h => absurd h List.not_mem_nil) hG trivial hT hW hlv ?_ ?_
        · intro t2 mt h9
          have hg : ∀ t2 ∈ rz_gvmg, t2.2.1 = true := (by intro t2 mt; unfold rz_gvmg at mt; simp only [List.mem_cons, List.not_mem_nil, or_false] at mt; rcases mt with mt | mt <;> (rw [mt]))
          rw [hg t2 mt] at h9
          cases h9
        · intro t2 mt _ C1 v lv1 ht hv1 _
          have hg : ∀ t2 ∈ rz_gvmg, t2.2.2.1 = rz_tvmg ∧ t2.2.2.2.1 = [] ∧ t2.2.2.2.2.1 = [nat_lit 13755] ∧ t2.2.2.2.2.2 = 0 := (by intro t2 mt; unfold rz_gvmg at mt; simp only [List.mem_cons, List.not_mem_nil, or_false] at mt; rcases mt with mt | mt <;> (rw [mt]; exact ⟨rfl, rfl, rfl, rfl⟩))
          obtain ⟨g2, g3, g4, g5⟩ := hg t2 mt
          have ho := rz_tk_out (S := [13755]) (T := 0) ht g3 rfl (by rw [g4]; decide +kernel) rfl (by rw [g5]; rfl)
          obtain ⟨va2, vb2, hs2, hG1, hT1, -, -⟩ := ht
          rw [g2] at hs2
          have hs2 : rz_sat as 0 ka rz_tvmg [C.1 13755, d.toInt] va2 vb2 lv1 C1 := hs2
          obtain ⟨xv, rfl, rfl, rfl, h⟩ := rz_tvmg_E hs2
          exact ⟨xv, hv1 (1000, .int xv) List.mem_cons_self rfl, by omega, by omega, hG1, hT1, ho⟩
