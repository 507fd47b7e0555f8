/-! Integer.bitCount of a number of eight bits -/
def rz_tbi (i : Nat) : rz_T := ([], [(nat_lit 0, .inl (Int.ofNat i, Int.ofNat i))], [], [], (.ofNat (nat_lit 0), []))
def rz_tbo : rz_T := ([], [(nat_lit 1000, .inl (.ofNat (nat_lit 0), .ofNat (nat_lit 8)))], [], [], (.ofNat (nat_lit 0), []))
def rz_cxt : rz_X := (nat_lit 304, [], [], nat_lit 0, nat_lit 0, true)
set_option maxRecDepth 1000000 in
theorem rz_gbit : ∀ i, i < 256 → rz_seg rz_kt0 rz_cxt 1000 2 0 (rz_tbi i) [] [] [(nat_lit 52, true, rz_tbo, [], [], nat_lit 0)] = true := by decide +kernel
theorem rz_mw304 : rx_mw 304 = true := rx_mw_ks 304 (rx_ks1_in 304 (by decide) (by decide))
theorem rz_bit_ok {X XR : rz_W → Prop} {Tx : rz_Tx} (htx : rz_txm Tx) (htr : ∀ X, rz_txr X Tx) : rz_cval X XR Tx rz_k74 := by
  intro l D cc as b ka C av sz va vb lv hs hl hsum hG hT hxp
  have hXC : X C := hxp
  obtain ⟨hg, hp, hc, -⟩ := hs
  obtain ⟨u0, t0, v0, l0, rfl, rfl, ⟨x, rfl, rfl, h0, h1⟩, rfl, rfl⟩ := hp
  cases hc
  have h0 : 0 ≤ x.toInt := h0
  have h1 : x.toInt ≤ 255 := h1
  refine rz_metW (mj := 304) (lvl := 2) rz_mw304 hsum ?_
  intro p e s m below meth c ls hsz hF hW hlv hr hlk
  have hlv : lv_has ls (rx_ml 304) [(0, .int x)] := rz_lv_sub hlv hl
  have ei : (Int.ofNat x.toInt.toNat) = x.toInt := by
    show (x.toInt.toNat : Int) = x.toInt
    omega
  refine rz_seg_ok (b := b) rz_depT rz_depRT (fun _ _ => trivial) htx (htr _) (rz_gbit x.toInt.toNat (by omega)) (rz_vals0 (fun _ => rfl) _) (by decide) (by decide +kernel) hF hr hlk (C := C) (ghv := []) (va := [x.toInt]) (vb := []) (lv := [(0, .int x)]) ⟨rfl, ⟨[x.toInt], [], _, _, rfl, rfl, ⟨x, rfl, rfl, ?_, ?_⟩, rfl, rfl⟩, rfl, fun f hf => absurd hf List.not_mem_nil⟩ (fun _ h => absurd h List.not_mem_nil) hG trivial hT hW hlv ?_ ?_
  · show Int.ofNat x.toInt.toNat ≤ x.toInt
    omega
  · show x.toInt ≤ Int.ofNat x.toInt.toNat
    omega
  · intro t2 mt h9
    have mt := List.mem_singleton.mp mt
    subst mt
    cases h9
  · intro t2 mt h9 C1 v lv1 ht hv1 _
    have mt := List.mem_singleton.mp mt
    subst mt
    have e1 := rz_out1_eq (rz_tk_out (S := []) (T := 0) ht rfl rfl rfl rfl rfl)
    obtain ⟨va2, vb2, ⟨-, hp2, -, -⟩, -⟩ := ht
    obtain ⟨u2, t2, v2, l2, rfl, rfl, ⟨y, rfl, rfl, y0, y1⟩, rfl, rfl⟩ := hp2
    have hv := hv1 (1000, .int y) List.mem_cons_self rfl
    rw [e1]
    exact ⟨⟨_, List.mem_cons_self, [y.toInt], [], ⟨_, hv, y, rfl, rfl, y0, y1⟩, rfl, fun f hf => absurd hf List.not_mem_nil⟩, hG, hT, hXC, ⟨fun _ _ => rfl, fun _ _ => rfl⟩⟩
