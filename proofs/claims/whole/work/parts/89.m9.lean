/-! ===== the reference's body: it is cut: the method ===== -/
theorem jm_bit_tt {b : Int} {h : ge_R} {x : ge_R × Int} (b0 : 0 ≤ b) (b1 : b < 20) (hx : 0 ≤ x.2 ∧ x.2 ≤ 1048575) : 0 ≤ (jm_bit b h x).2 ∧ (jm_bit b h x).2 ≤ 1048575 := by
  simp only [jm_bit]
  by_cases hs : ge_s h x.1 = 0
  · rw [if_pos hs, jb_shl1 b0 (by omega)]
    have e : (2 : Nat) ^ b.toNat < 2 ^ 20 := Nat.pow_lt_pow_right (by decide) (by omega)
    rw [show (2 : Nat) ^ 20 = 1048576 by decide] at e
    generalize (2 : Nat) ^ b.toNat = w at e ⊢
    rw [jb_or (by omega) (by omega) (by omega) (by omega)]
    have := Nat.or_lt_two_pow (n := 20) (x := x.2.toNat) (y := (w : Int).toNat) (by omega) (by omega)
    omega
  · rw [if_neg hs]
    exact hx
theorem ge_new_z {h : ge_R} {ed : (ge_R × Int) → (ge_R × Int) → Bool} {nt : Int → Int → Int} {L : List (ge_R × Int)} (hw : ∀ x ∈ L, 0 < x.1.2.2.2) {z : ge_R × Int} (hz : z ∈ ge_new h ed nt L L) : ge_s h z.1 = 0 ∧ ge_g z.1 = 1 := by
  obtain ⟨x, hx, y, hy, sx, sy, hd, rfl⟩ := ge_new_mem.mp hz
  have w : 0 < (ge_cr h x.1 y.1).2.2.2 := by
    have h1 := Int.mul_pos sy (hw x hx)
    have h2 := Int.mul_pos (show 0 < - ge_s h x.1 by omega) (hw y hy)
    rw [Int.neg_mul] at h2
    simp only [ge_cr]
    omega
  obtain ⟨e, g, wp⟩ := ge_pp_ok w
  exact ⟨(ge_sgn (ge_e_s e h) w wp).2.mpr (ge_cr_h h x.1 y.1), g⟩
theorem jm_cuts {n : Nat} {σ : jw_H} {b u S X : Int} {L : List (ge_R × Int)} (hN : jm_Ns σ) (q1 : 1 ≤ σ 103 3) (q2 : σ 103 3 ≤ 3) (b0 : 0 ≤ b) (b1 : b < 20) (hL : jm_is σ L) (S0 : 0 ≤ S) (hs : ∀ x ∈ L, -S ≤ ge_s (jm_rw σ b u) x.1 ∧ ge_s (jm_rw σ b u) x.1 ≤ S) (hS2 : S ≤ 9200000000000000000) (hX2 : X ≤ 9200000000000000000) (hS : S * X ≤ 4600000000000000000) (ht : ∀ x ∈ L, 0 ≤ x.2 ∧ x.2 ≤ 1048575) (hb : ∀ x ∈ L, jm_in4 X x.1 ∧ ge_g x.1 = 1) (hTot : L.length + (ge_new (jm_rw σ b u) (jm_ed σ) (jm_nt b) (L.map (jm_bit b (jm_rw σ b u))) (L.map (jm_bit b (jm_rw σ b u)))).length ≤ 64) (hbn : ∀ z ∈ (ge_new (jm_rw σ b u) (jm_ed σ) (jm_nt b) (L.map (jm_bit b (jm_rw σ b u))) (L.map (jm_bit b (jm_rw σ b u)))), jm_in4 X z.1) : jw_T (js_S n) 4 240 [.inr (.inr 103), .inl b, .inr (.inl u)] σ (fun r σ' => r = none ∧ jm_fr σ σ' ∧ jm_is σ' (jm_flt (jm_rw σ b u) ((L.map (jm_bit b (jm_rw σ b u))) ++ (ge_new (jm_rw σ b u) (jm_ed σ) (jm_nt b) (L.map (jm_bit b (jm_rw σ b u))) (L.map (jm_bit b (jm_rw σ b u))))))) := by
  refine jw_T_of (D := 3) (M := mm_240) rfl (Nat.le_of_ble_eq_true rfl) (ls0 := [some (.inr (.inr 103)), some (.inl b), some (.inr (.inl u)), none, none, none, none]) rfl ?_ (by rintro _ _ ⟨rfl, -⟩; rfl)
  have hm := hL.1
  have hl64 : L.length ≤ 64 := by omega
  have h0 : jm_c1 σ (jm_rw σ b u) b L σ 0 := ⟨jm_fr_rf σ, hL.1, fun i x hx => ⟨(hL.2 i x hx).1, fun w => by omega, fun _ => (hL.2 i x hx).2⟩⟩
  have hin : ∀ x ∈ (L.map (jm_bit b (jm_rw σ b u))), ∃ y ∈ L, x = jm_bit b (jm_rw σ b u) y := fun x hx => by
    obtain ⟨y, hy, rfl⟩ := List.mem_map.mp hx
    exact ⟨y, hy, rfl⟩
  have hs1 : ∀ x ∈ (L.map (jm_bit b (jm_rw σ b u))), -S ≤ ge_s (jm_rw σ b u) x.1 ∧ ge_s (jm_rw σ b u) x.1 ≤ S := fun x hx => by
    obtain ⟨y, hy, rfl⟩ := hin x hx
    exact hs y hy
  have ht1 : ∀ x ∈ (L.map (jm_bit b (jm_rw σ b u))), 0 ≤ x.2 ∧ x.2 ≤ 1048575 := fun x hx => by
    obtain ⟨y, hy, rfl⟩ := hin x hx
    exact jm_bit_tt b0 b1 (ht y hy)
  have hb1 : ∀ x ∈ (L.map (jm_bit b (jm_rw σ b u))), jm_in4 X x.1 := fun x hx => by
    obtain ⟨y, hy, rfl⟩ := hin x hx
    exact (hb y hy).1
  have hg1 : ∀ x ∈ (L.map (jm_bit b (jm_rw σ b u))), ge_g x.1 = 1 := fun x hx => by
    obtain ⟨y, hy, rfl⟩ := hin x hx
    exact (hb y hy).2
  have hTot1 : (L.map (jm_bit b (jm_rw σ b u))).length + (ge_new (jm_rw σ b u) (jm_ed σ) (jm_nt b) (L.map (jm_bit b (jm_rw σ b u))) (L.map (jm_bit b (jm_rw σ b u)))).length ≤ 64 := by rw [List.length_map]; exact hTot
  have hz := fun z (hz : z ∈ (ge_new (jm_rw σ b u) (jm_ed σ) (jm_nt b) (L.map (jm_bit b (jm_rw σ b u))) (L.map (jm_bit b (jm_rw σ b u))))) => ge_new_z (fun x hx => (hb1 x hx).2.2.2.1) hz
  have hsA : ∀ x ∈ (L.map (jm_bit b (jm_rw σ b u))) ++ (ge_new (jm_rw σ b u) (jm_ed σ) (jm_nt b) (L.map (jm_bit b (jm_rw σ b u))) (L.map (jm_bit b (jm_rw σ b u)))), -S ≤ ge_s (jm_rw σ b u) x.1 ∧ ge_s (jm_rw σ b u) x.1 ≤ S := fun x hx => by
    rcases List.mem_append.mp hx with hx | hx
    · exact hs1 x hx
    · have := (hz x hx).1
      omega
  have hbA : ∀ x ∈ (L.map (jm_bit b (jm_rw σ b u))) ++ (ge_new (jm_rw σ b u) (jm_ed σ) (jm_nt b) (L.map (jm_bit b (jm_rw σ b u))) (L.map (jm_bit b (jm_rw σ b u)))), jm_in4 X x.1 ∧ ge_g x.1 = 1 := fun x hx => by
    rcases List.mem_append.mp hx with hx | hx
    · exact ⟨hb1 x hx, hg1 x hx⟩
    · exact ⟨hbn x hx, (hz x hx).2⟩
  refine jw_W_n 1 (i' := 1) (ls' := [some (.inr (.inr 103)), some (.inl b), some (.inr (.inl u)), none, none, none, none]) (st' := [.inr (.inr 103)]) rfl ?_
  refine jw_W_gf rfl rfl rfl ?_
  show jw_W (js_S n) _ md_240 2 [some (.inr (.inr 103)), some (.inl b), some (.inr (.inl u)), none, none, none, none] [.inl (σ 103 46)] σ _
  rw [hm]
  refine jw_W_n 3 (i' := 5) (ls' := [some (.inr (.inr 103)), some (.inl b), some (.inr (.inl u)), none, some (.inl ((L.length : Int))), some (.inl 0), none]) (st' := []) rfl ?_
  refine jm_cuts1 (D := 3) (S := S) (by omega) hN b0 b1 hl64 hs hS2 (fun σ1 h1 => ?_) L.length (k := 0) (by omega) (by omega) h0
  refine jw_W_n 2 (i' := 40) (ls' := [some (.inr (.inr 103)), some (.inl b), some (.inr (.inl u)), none, some (.inl ((L.length : Int))), some (.inl 0), none]) (st' := []) rfl ?_
  rw [show (L.length : Int) = ((L.map (jm_bit b (jm_rw σ b u))).length : Int) by rw [List.length_map]]
  refine jm_cuts2 (D := 3) (by omega) hN q1 q2 b0 b1 hs1 hS2 ht1 hb1 hS hTot1 (fun σ2 l6 h2 => ?_) (L.map (jm_bit b (jm_rw σ b u))).length (k := 0) (by omega) (by omega) (by show jm_c2 _ _ (_ ++ ge_new _ _ _ (List.take (0 : Int).toNat _) _) _; rw [show ge_new (jm_rw σ b u) (jm_ed σ) (jm_nt b) ((L.map (jm_bit b (jm_rw σ b u))).take (0 : Int).toNat) (L.map (jm_bit b (jm_rw σ b u))) = [] from rfl, List.append_nil]; exact jm_c1_c2 h1)
  refine jw_W_n 4 (i' := 75) (ls' := [some (.inr (.inr 103)), some (.inl b), some (.inr (.inl u)), none, some (.inl (((L.map (jm_bit b (jm_rw σ b u))).length : Int))), some (.inl 0), some (.inl 0)]) (st' := []) rfl ?_
  exact jm_cuts3 (D := 3) (S := S) (X := X) (by omega) (by rw [List.length_append]; exact hTot1) hsA hS2 hX2 hbA (fun σ' a b => ⟨rfl, a, b⟩) ((L.map (jm_bit b (jm_rw σ b u))) ++ (ge_new (jm_rw σ b u) (jm_ed σ) (jm_nt b) (L.map (jm_bit b (jm_rw σ b u))) (L.map (jm_bit b (jm_rw σ b u))))).length (by omega) (by omega) (jm_c2_c3 h2)
