/-! ===== the tape: feed, check: class and reference ===== -/
theorem jn_and255 {x : Int} (x0 : 0 ≤ x) (x1 : x ≤ 2147483647) : jw_and x 255 = x % 256 := by
  rw [jb_and x0 x1 (by omega) (by omega)]
  have e : x.toNat &&& (255 : Int).toNat = x.toNat % 256 := by
    show x.toNat &&& (2 ^ 8 - 1) = x.toNat % 2 ^ 8
    exact Nat.and_two_pow_sub_one_eq_mod _ 8
  rw [e]
  omega
theorem jn_toI (X : Int32) : jw_and X.toInt 255 = ((X.toBitVec.toNat % 256 : Nat) : Int) := by
  unfold jw_and
  rw [Int32.ofInt_toInt]
  have e : (X &&& Int32.ofInt 255).toBitVec = X.toBitVec &&& 255#32 := by
    rw [Int32.toBitVec_and]
    rfl
  show (X &&& Int32.ofInt 255).toBitVec.toInt = _
  rw [e]
  have e2 : (X.toBitVec &&& 255#32).toNat = X.toBitVec.toNat % 256 := by
    rw [BitVec.toNat_and]
    show X.toBitVec.toNat &&& (2 ^ 8 - 1) = X.toBitVec.toNat % 2 ^ 8
    exact Nat.and_two_pow_sub_one_eq_mod _ 8
  rw [BitVec.toInt_eq_toNat_of_lt (by rw [e2]; omega), e2]
theorem jn_u32 {v : Int} (hv : jw_rg v) : (Int32.ofInt v).toBitVec.toNat = (v % 4294967296).toNat := by
  have h1 : (Int32.ofInt v).toBitVec = BitVec.ofInt 32 v := rfl
  rw [h1, BitVec.toNat_ofInt]
  rfl
theorem jn_ushr {v : Int} (hv : jw_rg v) (s : Nat) (hs : s < 32) (hz : ((Int32.ofInt (s : Int)).toUInt32 &&& Int32.toUInt32 31).toNat = s) : jw_and (jw_ushr v (s : Int)) 255 = v % 4294967296 / ((2 ^ s : Nat) : Int) % 256 := by
  unfold jw_ushr
  rw [jn_toI]
  have e : (((Int32.ofInt v).toUInt32 >>> ((Int32.ofInt (s : Int)).toUInt32 &&& Int32.toUInt32 31)).toInt32).toBitVec.toNat = (v % 4294967296).toNat / 2 ^ s := by
    have h1 : ((Int32.ofInt v).toUInt32 >>> ((Int32.ofInt (s : Int)).toUInt32 &&& Int32.toUInt32 31)).toNat = (v % 4294967296).toNat / 2 ^ s := by
      rw [UInt32.toNat_shiftRight, hz, Nat.mod_eq_of_lt hs, Nat.shiftRight_eq_div_pow]
      rw [show (Int32.ofInt v).toUInt32.toNat = (v % 4294967296).toNat from jn_u32 hv]
    exact h1
  have e3 : v % 4294967296 / ((2 ^ s : Nat) : Int) = (((v % 4294967296).toNat / 2 ^ s : Nat) : Int) := by
    rw [Int.natCast_ediv, Int.toNat_of_nonneg (by omega)]
  rw [e, e3]
  omega
theorem jn_byteC {v : Int} (hv : jw_rg v) : jw_and (jw_ushr v 24) 255 = v / 16777216 % 256 ∧ jw_and (jw_ushr v 16) 255 = v / 65536 % 256 ∧ jw_and (jw_ushr v 8) 255 = v / 256 % 256 ∧ jw_and (jw_ushr v 0) 255 = v % 256 := by
  have h1 := jn_ushr hv 24 (by omega) (by decide)
  have h2 := jn_ushr hv 16 (by omega) (by decide)
  have h3 := jn_ushr hv 8 (by omega) (by decide)
  have h4 := jn_ushr hv 0 (by omega) (by decide)
  refine ⟨h1.trans ?_, h2.trans ?_, h3.trans ?_, h4.trans ?_⟩
  · show v % 4294967296 / 16777216 % 256 = _
    omega
  · show v % 4294967296 / 65536 % 256 = _
    omega
  · show v % 4294967296 / 256 % 256 = _
    omega
  · show v % 4294967296 / 1 % 256 = _
    omega
theorem jn_jb {a : Int} (ha : jw_rg a) : jw_b a % 256 = a % 256 ∧ -128 ≤ jw_b a ∧ jw_b a ≤ 127 := by
  unfold jw_b
  have e : (Int32.ofInt a).toInt8.toInt32.toInt = a.bmod 256 := by
    rw [Int8.toInt_toInt32, Int32.toInt_toInt8]
    rw [show (Int32.ofInt a).toInt = a from jw_n_id ha]
  rw [e]
  have h1 := Int.le_bmod (x := a) (m := 256) (by omega)
  have h2 := Int.bmod_lt (x := a) (m := 256) (by omega)
  have h3 : a.bmod 256 % 256 = a % 256 := Int.bmod_emod
  omega
theorem jn_byteM {v : Int} (hv : jw_rg v) : (jw_b (jw_b (jw_shr v 24)) % 256 = v / 16777216 % 256 ∧ jw_b (jw_b (jw_shr v 16)) % 256 = v / 65536 % 256 ∧ jw_b (jw_b (jw_shr v 8)) % 256 = v / 256 % 256 ∧ jw_b (jw_b (jw_shr v 0)) % 256 = v % 256) ∧ (-128 ≤ jw_b (jw_b (jw_shr v 24)) ∧ jw_b (jw_b (jw_shr v 24)) ≤ 127) ∧ (-128 ≤ jw_b (jw_b (jw_shr v 16)) ∧ jw_b (jw_b (jw_shr v 16)) ≤ 127) ∧ (-128 ≤ jw_b (jw_b (jw_shr v 8)) ∧ jw_b (jw_b (jw_shr v 8)) ≤ 127) ∧ (-128 ≤ jw_b (jw_b (jw_shr v 0)) ∧ jw_b (jw_b (jw_shr v 0)) ≤ 127) := by
  have hv2 := hv
  unfold jw_rg at hv2
  have e1 : jw_shr v 24 = v / 16777216 := jb_shr hv (by omega) (by omega)
  have e2 : jw_shr v 16 = v / 65536 := jb_shr hv (by omega) (by omega)
  have e3 : jw_shr v 8 = v / 256 := jb_shr hv (by omega) (by omega)
  have e4 : jw_shr v 0 = v / 1 := jb_shr hv (by omega) (by omega)
  rw [e1, e2, e3, e4, show v / 1 = v by omega]
  have h1 := jn_jb (a := v / 16777216) (by unfold jw_rg; omega)
  have h2 := jn_jb (a := v / 65536) (by unfold jw_rg; omega)
  have h3 := jn_jb (a := v / 256) (by unfold jw_rg; omega)
  have h4 := jn_jb (a := v) hv
  have g1 := jn_jb (a := jw_b (v / 16777216)) (by unfold jw_rg; omega)
  have g2 := jn_jb (a := jw_b (v / 65536)) (by unfold jw_rg; omega)
  have g3 := jn_jb (a := jw_b (v / 256)) (by unfold jw_rg; omega)
  have g4 := jn_jb (a := jw_b v) (by unfold jw_rg; omega)
  exact ⟨⟨g1.1.trans h1.1, g2.1.trans h2.1, g3.1.trans h3.1, g4.1.trans h4.1⟩, g1.2, g2.2, g3.2, g4.2⟩
/-- the tape of class and reference: so many bytes -/
def jn_tc (σ : jw_H) (b : Int → Int) (t : Int) : Prop := σ 13 1 = t ∧ ∀ j, 0 ≤ j → j < t → σ 14 j = b j
def jn_tm (σ : jw_H) (b : Int → Int) (t : Int) : Prop := σ 103 7 = t ∧ ∀ j, 0 ≤ j → j < t → σ 107 j % 256 = b j ∧ -128 ≤ σ 107 j ∧ σ 107 j ≤ 127
/-- four bytes more -/
def jn_bp (b : Int → Int) (t v : Int) : Int → Int := fun j => if j = t then v / 16777216 % 256 else if j = t + 1 then v / 65536 % 256 else if j = t + 2 then v / 256 % 256 else if j = t + 3 then v % 256 else b j
def jn_f13 (σ0 σ : jw_H) : Prop := (∀ c, c ≠ 13 → c ≠ 14 → σ c = σ0 c) ∧ ∀ j, j ≠ 1 → σ 13 j = σ0 13 j
def jn_f107 (σ0 σ : jw_H) : Prop := (∀ c, c ≠ 103 → c ≠ 107 → σ c = σ0 c) ∧ ∀ j, j ≠ 7 → σ 103 j = σ0 103 j
theorem jn_f13_tr {σ σ1 σ2 : jw_H} (a : jn_f13 σ σ1) (b : jn_f13 σ1 σ2) : jn_f13 σ σ2 := ⟨fun c h1 h2 => (b.1 c h1 h2).trans (a.1 c h1 h2), fun j h => (b.2 j h).trans (a.2 j h)⟩
theorem jn_f107_tr {σ σ1 σ2 : jw_H} (a : jn_f107 σ σ1) (b : jn_f107 σ1 σ2) : jn_f107 σ σ2 := ⟨fun c h1 h2 => (b.1 c h1 h2).trans (a.1 c h1 h2), fun j h => (b.2 j h).trans (a.2 j h)⟩
theorem jn_up13 {σ0 σ : jw_H} {o : Nat} {j v : Int} (h : jn_f13 σ0 σ) (ho : o = 14 ∨ o = 13 ∧ j = 1) : jn_f13 σ0 (jw_up σ o j v) := by
  refine ⟨fun c h1 h2 => ?_, fun j' hj => ?_⟩
  · rw [jw_up_out _ _ _ (by omega)]
    exact h.1 c h1 h2
  · rw [jw_up_ne _ (by omega)]
    exact h.2 j' hj
theorem jn_up107 {σ0 σ : jw_H} {o : Nat} {j v : Int} (h : jn_f107 σ0 σ) (ho : o = 107 ∨ o = 103 ∧ j = 7) : jn_f107 σ0 (jw_up σ o j v) := by
  refine ⟨fun c h1 h2 => ?_, fun j' hj => ?_⟩
  · rw [jw_up_out _ _ _ (by omega)]
    exact h.1 c h1 h2
  · rw [jw_up_ne _ (by omega)]
    exact h.2 j' hj
theorem jn_f13_rf (σ : jw_H) : jn_f13 σ σ := ⟨fun _ _ _ => rfl, fun _ _ => rfl⟩
theorem jn_f107_rf (σ : jw_H) : jn_f107 σ σ := ⟨fun _ _ _ => rfl, fun _ _ => rfl⟩
theorem jx_put4 {n : Nat} {σ : jw_H} {b : Int → Int} {t v : Int} (hb : jn_tc σ b t) (t0 : 0 ≤ t) (t1 : t + 4 ≤ 260) (hv : jw_rg v) : jw_T (js_S n) 1 115 [.inr (.inr 13), .inl v] σ (fun r σ' => r = none ∧ jn_f13 σ σ' ∧ jn_tc σ' (jn_bp b t v) (t + 4)) := by
  refine jw_T_of (D := 0) (M := mm_115) rfl (Nat.le_of_ble_eq_true rfl) (ls0 := [some (.inr (.inr 13)), some (.inl v), none]) rfl ?_ (by rintro _ _ ⟨rfl, -⟩; rfl)
  have hby := jn_byteC hv
  have hb1 := hb.1
  refine jw_W_n 3 (i' := 3) (ls' := [some (.inr (.inr 13)), some (.inl v), some (.inl 24)]) (st' := [.inl 24]) rfl ?_
  refine jw_W_if rfl (by unfold jw_rg; omega) (fun hc1 => ?_) (fun hc1 => ?_)
  · exact absurd hc1 (show ¬ ((24 : Int) < 0) by omega)
  · clear hc1
    refine jw_W_n 1 (i' := 5) (ls' := [some (.inr (.inr 13)), some (.inl v), some (.inl 24)]) (st' := [.inr (.inr 13)]) rfl ?_
    refine jw_W_gf rfl rfl rfl ?_
    show jw_W (js_S n) _ md_115 6 [some (.inr (.inr 13)), some (.inl v), some (.inl 24)] [.inl (σ 13 1)] σ _
    refine jw_W_n 1 (i' := 7) (ls' := [some (.inr (.inr 13)), some (.inl v), some (.inl 24)]) (st' := [.inl 260, .inl (σ 13 1)]) rfl ?_
    refine jw_W_ic rfl (by unfold jw_rg; omega) (by unfold jw_rg; omega) (fun hc2 => ?_) (fun hc2 => ?_)
    · have hc2 : (σ 13 1) ≥ 260 := hc2
      exfalso; omega
    · have hc2 : ¬ ((σ 13 1) ≥ 260) := hc2
      refine jw_W_n 1 (i' := 9) (ls' := [some (.inr (.inr 13)), some (.inl v), some (.inl 24)]) (st' := [.inr (.inr 13)]) rfl ?_
      refine jw_W_gf rfl rfl rfl ?_
      show jw_W (js_S n) _ md_115 10 [some (.inr (.inr 13)), some (.inl v), some (.inl 24)] [.inr (.inr 14)] σ _
      refine jw_W_n 1 (i' := 11) (ls' := [some (.inr (.inr 13)), some (.inl v), some (.inl 24)]) (st' := [.inr (.inr 13), .inr (.inr 14)]) rfl ?_
      refine jw_W_gf rfl rfl rfl ?_
      show jw_W (js_S n) _ md_115 12 [some (.inr (.inr 13)), some (.inl v), some (.inl 24)] [.inl (σ 13 1), .inr (.inr 14)] σ _
      refine jw_W_n 5 (i' := 17) (ls' := [some (.inr (.inr 13)), some (.inl v), some (.inl 24)]) (st' := [.inl (jw_and (jw_ushr v 24) 255), .inl (σ 13 1), .inr (.inr 14)]) rfl ?_
      refine jw_W_is rfl (by omega) rfl (by omega) (by omega) (by omega) ?_
      refine jw_W_n 2 (i' := 20) (ls' := [some (.inr (.inr 13)), some (.inl v), some (.inl 24)]) (st' := [.inr (.inr 13), .inr (.inr 13)]) rfl ?_
      refine jw_W_gf rfl rfl rfl ?_
      show jw_W (js_S n) _ md_115 21 [some (.inr (.inr 13)), some (.inl v), some (.inl 24)] [.inl (σ 13 1), .inr (.inr 13)] ((jw_up σ 14 (σ 13 1) (jw_and (jw_ushr v 24) 255))) _
      refine jw_W_n 2 (i' := 23) (ls' := [some (.inr (.inr 13)), some (.inl v), some (.inl 24)]) (st' := [.inl (σ 13 1 + 1), .inr (.inr 13)]) rfl ?_
      refine jw_W_pf (a := σ 13 1 + 1) rfl (by omega) rfl rfl rfl rfl rfl ?_
      refine jw_W_n 3 (i' := 3) (ls' := [some (.inr (.inr 13)), some (.inl v), some (.inl 16)]) (st' := [.inl 16]) rfl ?_
      refine jw_W_if rfl (by unfold jw_rg; omega) (fun hc3 => ?_) (fun hc3 => ?_)
      · exact absurd hc3 (show ¬ ((16 : Int) < 0) by omega)
      · clear hc3
        refine jw_W_n 1 (i' := 5) (ls' := [some (.inr (.inr 13)), some (.inl v), some (.inl 16)]) (st' := [.inr (.inr 13)]) rfl ?_
        refine jw_W_gf rfl rfl rfl ?_
        show jw_W (js_S n) _ md_115 6 [some (.inr (.inr 13)), some (.inl v), some (.inl 16)] [.inl (σ 13 1 + 1)] ((jw_up (jw_up σ 14 (σ 13 1) (jw_and (jw_ushr v 24) 255)) 13 1 (σ 13 1 + 1))) _
        refine jw_W_n 1 (i' := 7) (ls' := [some (.inr (.inr 13)), some (.inl v), some (.inl 16)]) (st' := [.inl 260, .inl (σ 13 1 + 1)]) rfl ?_
        refine jw_W_ic rfl (by unfold jw_rg; omega) (by unfold jw_rg; omega) (fun hc4 => ?_) (fun hc4 => ?_)
        · have hc4 : (σ 13 1 + 1) ≥ 260 := hc4
          exfalso; omega
        · have hc4 : ¬ ((σ 13 1 + 1) ≥ 260) := hc4
          refine jw_W_n 1 (i' := 9) (ls' := [some (.inr (.inr 13)), some (.inl v), some (.inl 16)]) (st' := [.inr (.inr 13)]) rfl ?_
          refine jw_W_gf rfl rfl rfl ?_
          show jw_W (js_S n) _ md_115 10 [some (.inr (.inr 13)), some (.inl v), some (.inl 16)] [.inr (.inr 14)] ((jw_up (jw_up σ 14 (σ 13 1) (jw_and (jw_ushr v 24) 255)) 13 1 (σ 13 1 + 1))) _
          refine jw_W_n 1 (i' := 11) (ls' := [some (.inr (.inr 13)), some (.inl v), some (.inl 16)]) (st' := [.inr (.inr 13), .inr (.inr 14)]) rfl ?_
          refine jw_W_gf rfl rfl rfl ?_
          show jw_W (js_S n) _ md_115 12 [some (.inr (.inr 13)), some (.inl v), some (.inl 16)] [.inl (σ 13 1 + 1), .inr (.inr 14)] ((jw_up (jw_up σ 14 (σ 13 1) (jw_and (jw_ushr v 24) 255)) 13 1 (σ 13 1 + 1))) _
          refine jw_W_n 5 (i' := 17) (ls' := [some (.inr (.inr 13)), some (.inl v), some (.inl 16)]) (st' := [.inl (jw_and (jw_ushr v 16) 255), .inl (σ 13 1 + 1), .inr (.inr 14)]) rfl ?_
          refine jw_W_is rfl (by omega) rfl (by omega) (by omega) (by omega) ?_
          refine jw_W_n 2 (i' := 20) (ls' := [some (.inr (.inr 13)), some (.inl v), some (.inl 16)]) (st' := [.inr (.inr 13), .inr (.inr 13)]) rfl ?_
          refine jw_W_gf rfl rfl rfl ?_
          show jw_W (js_S n) _ md_115 21 [some (.inr (.inr 13)), some (.inl v), some (.inl 16)] [.inl (σ 13 1 + 1), .inr (.inr 13)] ((jw_up (jw_up (jw_up σ 14 (σ 13 1) (jw_and (jw_ushr v 24) 255)) 13 1 (σ 13 1 + 1)) 14 (σ 13 1 + 1) (jw_and (jw_ushr v 16) 255))) _
          refine jw_W_n 2 (i' := 23) (ls' := [some (.inr (.inr 13)), some (.inl v), some (.inl 16)]) (st' := [.inl ((σ 13 1 + 1) + 1), .inr (.inr 13)]) rfl ?_
          refine jw_W_pf (a := (σ 13 1 + 1) + 1) rfl (by omega) rfl rfl rfl rfl rfl ?_
          refine jw_W_n 3 (i' := 3) (ls' := [some (.inr (.inr 13)), some (.inl v), some (.inl 8)]) (st' := [.inl 8]) rfl ?_
          refine jw_W_if rfl (by unfold jw_rg; omega) (fun hc5 => ?_) (fun hc5 => ?_)
          · exact absurd hc5 (show ¬ ((8 : Int) < 0) by omega)
          · clear hc5
            refine jw_W_n 1 (i' := 5) (ls' := [some (.inr (.inr 13)), some (.inl v), some (.inl 8)]) (st' := [.inr (.inr 13)]) rfl ?_
            refine jw_W_gf rfl rfl rfl ?_
            show jw_W (js_S n) _ md_115 6 [some (.inr (.inr 13)), some (.inl v), some (.inl 8)] [.inl ((σ 13 1 + 1) + 1)] ((jw_up (jw_up (jw_up (jw_up σ 14 (σ 13 1) (jw_and (jw_ushr v 24) 255)) 13 1 (σ 13 1 + 1)) 14 (σ 13 1 + 1) (jw_and (jw_ushr v 16) 255)) 13 1 ((σ 13 1 + 1) + 1))) _
            refine jw_W_n 1 (i' := 7) (ls' := [some (.inr (.inr 13)), some (.inl v), some (.inl 8)]) (st' := [.inl 260, .inl ((σ 13 1 + 1) + 1)]) rfl ?_
            refine jw_W_ic rfl (by unfold jw_rg; omega) (by unfold jw_rg; omega) (fun hc6 => ?_) (fun hc6 => ?_)
            · have hc6 : ((σ 13 1 + 1) + 1) ≥ 260 := hc6
              exfalso; omega
            · have hc6 : ¬ (((σ 13 1 + 1) + 1) ≥ 260) := hc6
              refine jw_W_n 1 (i' := 9) (ls' := [some (.inr (.inr 13)), some (.inl v), some (.inl 8)]) (st' := [.inr (.inr 13)]) rfl ?_
              refine jw_W_gf rfl rfl rfl ?_
              show jw_W (js_S n) _ md_115 10 [some (.inr (.inr 13)), some (.inl v), some (.inl 8)] [.inr (.inr 14)] ((jw_up (jw_up (jw_up (jw_up σ 14 (σ 13 1) (jw_and (jw_ushr v 24) 255)) 13 1 (σ 13 1 + 1)) 14 (σ 13 1 + 1) (jw_and (jw_ushr v 16) 255)) 13 1 ((σ 13 1 + 1) + 1))) _
              refine jw_W_n 1 (i' := 11) (ls' := [some (.inr (.inr 13)), some (.inl v), some (.inl 8)]) (st' := [.inr (.inr 13), .inr (.inr 14)]) rfl ?_
              refine jw_W_gf rfl rfl rfl ?_
              show jw_W (js_S n) _ md_115 12 [some (.inr (.inr 13)), some (.inl v), some (.inl 8)] [.inl ((σ 13 1 + 1) + 1), .inr (.inr 14)] ((jw_up (jw_up (jw_up (jw_up σ 14 (σ 13 1) (jw_and (jw_ushr v 24) 255)) 13 1 (σ 13 1 + 1)) 14 (σ 13 1 + 1) (jw_and (jw_ushr v 16) 255)) 13 1 ((σ 13 1 + 1) + 1))) _
              refine jw_W_n 5 (i' := 17) (ls' := [some (.inr (.inr 13)), some (.inl v), some (.inl 8)]) (st' := [.inl (jw_and (jw_ushr v 8) 255), .inl ((σ 13 1 + 1) + 1), .inr (.inr 14)]) rfl ?_
              refine jw_W_is rfl (by omega) rfl (by omega) (by omega) (by omega) ?_
              refine jw_W_n 2 (i' := 20) (ls' := [some (.inr (.inr 13)), some (.inl v), some (.inl 8)]) (st' := [.inr (.inr 13), .inr (.inr 13)]) rfl ?_
              refine jw_W_gf rfl rfl rfl ?_
              show jw_W (js_S n) _ md_115 21 [some (.inr (.inr 13)), some (.inl v), some (.inl 8)] [.inl ((σ 13 1 + 1) + 1), .inr (.inr 13)] ((jw_up (jw_up (jw_up (jw_up (jw_up σ 14 (σ 13 1) (jw_and (jw_ushr v 24) 255)) 13 1 (σ 13 1 + 1)) 14 (σ 13 1 + 1) (jw_and (jw_ushr v 16) 255)) 13 1 ((σ 13 1 + 1) + 1)) 14 ((σ 13 1 + 1) + 1) (jw_and (jw_ushr v 8) 255))) _
              refine jw_W_n 2 (i' := 23) (ls' := [some (.inr (.inr 13)), some (.inl v), some (.inl 8)]) (st' := [.inl (((σ 13 1 + 1) + 1) + 1), .inr (.inr 13)]) rfl ?_
              refine jw_W_pf (a := ((σ 13 1 + 1) + 1) + 1) rfl (by omega) rfl rfl rfl rfl rfl ?_
              refine jw_W_n 3 (i' := 3) (ls' := [some (.inr (.inr 13)), some (.inl v), some (.inl 0)]) (st' := [.inl 0]) rfl ?_
              refine jw_W_if rfl (by unfold jw_rg; omega) (fun hc7 => ?_) (fun hc7 => ?_)
              · exact absurd hc7 (show ¬ ((0 : Int) < 0) by omega)
              · clear hc7
                refine jw_W_n 1 (i' := 5) (ls' := [some (.inr (.inr 13)), some (.inl v), some (.inl 0)]) (st' := [.inr (.inr 13)]) rfl ?_
                refine jw_W_gf rfl rfl rfl ?_
                show jw_W (js_S n) _ md_115 6 [some (.inr (.inr 13)), some (.inl v), some (.inl 0)] [.inl (((σ 13 1 + 1) + 1) + 1)] ((jw_up (jw_up (jw_up (jw_up (jw_up (jw_up σ 14 (σ 13 1) (jw_and (jw_ushr v 24) 255)) 13 1 (σ 13 1 + 1)) 14 (σ 13 1 + 1) (jw_and (jw_ushr v 16) 255)) 13 1 ((σ 13 1 + 1) + 1)) 14 ((σ 13 1 + 1) + 1) (jw_and (jw_ushr v 8) 255)) 13 1 (((σ 13 1 + 1) + 1) + 1))) _
                refine jw_W_n 1 (i' := 7) (ls' := [some (.inr (.inr 13)), some (.inl v), some (.inl 0)]) (st' := [.inl 260, .inl (((σ 13 1 + 1) + 1) + 1)]) rfl ?_
                refine jw_W_ic rfl (by unfold jw_rg; omega) (by unfold jw_rg; omega) (fun hc8 => ?_) (fun hc8 => ?_)
                · have hc8 : (((σ 13 1 + 1) + 1) + 1) ≥ 260 := hc8
                  exfalso; omega
                · have hc8 : ¬ ((((σ 13 1 + 1) + 1) + 1) ≥ 260) := hc8
                  refine jw_W_n 1 (i' := 9) (ls' := [some (.inr (.inr 13)), some (.inl v), some (.inl 0)]) (st' := [.inr (.inr 13)]) rfl ?_
                  refine jw_W_gf rfl rfl rfl ?_
                  show jw_W (js_S n) _ md_115 10 [some (.inr (.inr 13)), some (.inl v), some (.inl 0)] [.inr (.inr 14)] ((jw_up (jw_up (jw_up (jw_up (jw_up (jw_up σ 14 (σ 13 1) (jw_and (jw_ushr v 24) 255)) 13 1 (σ 13 1 + 1)) 14 (σ 13 1 + 1) (jw_and (jw_ushr v 16) 255)) 13 1 ((σ 13 1 + 1) + 1)) 14 ((σ 13 1 + 1) + 1) (jw_and (jw_ushr v 8) 255)) 13 1 (((σ 13 1 + 1) + 1) + 1))) _
                  refine jw_W_n 1 (i' := 11) (ls' := [some (.inr (.inr 13)), some (.inl v), some (.inl 0)]) (st' := [.inr (.inr 13), .inr (.inr 14)]) rfl ?_
                  refine jw_W_gf rfl rfl rfl ?_
                  show jw_W (js_S n) _ md_115 12 [some (.inr (.inr 13)), some (.inl v), some (.inl 0)] [.inl (((σ 13 1 + 1) + 1) + 1), .inr (.inr 14)] ((jw_up (jw_up (jw_up (jw_up (jw_up (jw_up σ 14 (σ 13 1) (jw_and (jw_ushr v 24) 255)) 13 1 (σ 13 1 + 1)) 14 (σ 13 1 + 1) (jw_and (jw_ushr v 16) 255)) 13 1 ((σ 13 1 + 1) + 1)) 14 ((σ 13 1 + 1) + 1) (jw_and (jw_ushr v 8) 255)) 13 1 (((σ 13 1 + 1) + 1) + 1))) _
                  refine jw_W_n 5 (i' := 17) (ls' := [some (.inr (.inr 13)), some (.inl v), some (.inl 0)]) (st' := [.inl (jw_and (jw_ushr v 0) 255), .inl (((σ 13 1 + 1) + 1) + 1), .inr (.inr 14)]) rfl ?_
                  refine jw_W_is rfl (by omega) rfl (by omega) (by omega) (by omega) ?_
                  refine jw_W_n 2 (i' := 20) (ls' := [some (.inr (.inr 13)), some (.inl v), some (.inl 0)]) (st' := [.inr (.inr 13), .inr (.inr 13)]) rfl ?_
                  refine jw_W_gf rfl rfl rfl ?_
                  show jw_W (js_S n) _ md_115 21 [some (.inr (.inr 13)), some (.inl v), some (.inl 0)] [.inl (((σ 13 1 + 1) + 1) + 1), .inr (.inr 13)] ((jw_up (jw_up (jw_up (jw_up (jw_up (jw_up (jw_up σ 14 (σ 13 1) (jw_and (jw_ushr v 24) 255)) 13 1 (σ 13 1 + 1)) 14 (σ 13 1 + 1) (jw_and (jw_ushr v 16) 255)) 13 1 ((σ 13 1 + 1) + 1)) 14 ((σ 13 1 + 1) + 1) (jw_and (jw_ushr v 8) 255)) 13 1 (((σ 13 1 + 1) + 1) + 1)) 14 (((σ 13 1 + 1) + 1) + 1) (jw_and (jw_ushr v 0) 255))) _
                  refine jw_W_n 2 (i' := 23) (ls' := [some (.inr (.inr 13)), some (.inl v), some (.inl 0)]) (st' := [.inl ((((σ 13 1 + 1) + 1) + 1) + 1), .inr (.inr 13)]) rfl ?_
                  refine jw_W_pf (a := (((σ 13 1 + 1) + 1) + 1) + 1) rfl (by omega) rfl rfl rfl rfl rfl ?_
                  refine jw_W_n 3 (i' := 3) (ls' := [some (.inr (.inr 13)), some (.inl v), some (.inl ((-8)))]) (st' := [.inl ((-8))]) rfl ?_
                  refine jw_W_if rfl (by unfold jw_rg; omega) (fun hc9 => ?_) (fun hc9 => ?_)
                  · clear hc9
                    refine jw_W_re rfl ?_
                    refine ⟨rfl, jn_up13 (jn_up13 (jn_up13 (jn_up13 (jn_up13 (jn_up13 (jn_up13 (jn_up13 (jn_f13_rf σ) (by omega)) (by omega)) (by omega)) (by omega)) (by omega)) (by omega)) (by omega)) (by omega), ?_, fun j j0 j1 => ?_⟩
                    · exact (jw_up_eq _ _ _ _).trans (by omega)
                    · unfold jn_bp
                      by_cases e3 : j = t + 3
                      · rw [if_neg (by omega), if_neg (by omega), if_neg (by omega), if_pos e3, jw_up_ne _ (by omega), show j = σ 13 1 + 1 + 1 + 1 by omega]
                        exact (jw_up_eq _ _ _ _).trans hby.2.2.2
                      · by_cases e2 : j = t + 2
                        · rw [if_neg (by omega), if_neg (by omega), if_pos e2, jw_up_ne _ (by omega), jw_up_ne _ (by omega), jw_up_ne _ (by omega), show j = σ 13 1 + 1 + 1 by omega]
                          exact (jw_up_eq _ _ _ _).trans hby.2.2.1
                        · by_cases e1 : j = t + 1
                          · rw [if_neg (by omega), if_pos e1, jw_up_ne _ (by omega), jw_up_ne _ (by omega), jw_up_ne _ (by omega), jw_up_ne _ (by omega), jw_up_ne _ (by omega), show j = σ 13 1 + 1 by omega]
                            exact (jw_up_eq _ _ _ _).trans hby.2.1
                          · by_cases e0 : j = t
                            · rw [if_pos e0, jw_up_ne _ (by omega), jw_up_ne _ (by omega), jw_up_ne _ (by omega), jw_up_ne _ (by omega), jw_up_ne _ (by omega), jw_up_ne _ (by omega), jw_up_ne _ (by omega), show j = σ 13 1 by omega]
                              exact (jw_up_eq _ _ _ _).trans hby.1
                            · rw [if_neg e0, if_neg e1, if_neg e2, if_neg e3, jw_up_ne _ (by omega), jw_up_ne _ (by omega), jw_up_ne _ (by omega), jw_up_ne _ (by omega), jw_up_ne _ (by omega), jw_up_ne _ (by omega), jw_up_ne _ (by omega), jw_up_ne _ (by omega)]
                              exact hb.2 j j0 (by omega)
                  · exact absurd hc9 (show ¬ ¬ ((((-8 : Int))) < 0) by omega)
/-- twenty bytes more -/
def jn_b20 (b : Int → Int) (t v1 v2 v3 v4 v5 : Int) : Int → Int := jn_bp (jn_bp (jn_bp (jn_bp (jn_bp b t v1) (t + 4) v2) (t + 4 + 4) v3) (t + 4 + 4 + 4) v4) (t + 4 + 4 + 4 + 4) v5
theorem jx_feed {n : Nat} {σ : jw_H} {b : Int → Int} {t v1 v2 v3 v4 v5 : Int} (hb : jn_tc σ b t) (t0 : 0 ≤ t) (t1 : t ≤ 260) (hv1 : jw_rg v1) (hv2 : jw_rg v2) (hv3 : jw_rg v3) (hv4 : jw_rg v4) (hv5 : jw_rg v5) : jw_T (js_S n) 2 114 [.inr (.inr 13), .inl v1, .inl v2, .inl v3, .inl v4, .inl v5] σ (fun r σ' => (r = some (.inl (-1)) ∧ σ' = σ ∧ 240 < t) ∨ (r = some (.inl (t + 20)) ∧ jn_f13 σ σ' ∧ jn_tc σ' (jn_b20 b t v1 v2 v3 v4 v5) (t + 20) ∧ t ≤ 240)) := by
  refine jw_T_of (D := 1) (M := mm_114) rfl (Nat.le_of_ble_eq_true rfl) (ls0 := [some (.inr (.inr 13)), some (.inl v1), some (.inl v2), some (.inl v3), some (.inl v4), some (.inl v5)]) rfl ?_ (by rintro _ _ (⟨rfl, -⟩ | ⟨rfl, -⟩) <;> rfl)
  have hb0 := hb.1
  refine jw_W_n 1 (i' := 1) (ls' := [some (.inr (.inr 13)), some (.inl v1), some (.inl v2), some (.inl v3), some (.inl v4), some (.inl v5)]) (st' := [.inr (.inr 13)]) rfl ?_
  refine jw_W_gf rfl rfl rfl ?_
  show jw_W (js_S n) _ md_114 2 [some (.inr (.inr 13)), some (.inl v1), some (.inl v2), some (.inl v3), some (.inl v4), some (.inl v5)] [.inl (σ 13 1)] σ _
  refine jw_W_n 3 (i' := 5) (ls' := [some (.inr (.inr 13)), some (.inl v1), some (.inl v2), some (.inl v3), some (.inl v4), some (.inl v5)]) (st' := [.inl 260, .inl (σ 13 1 + 20)]) rfl ?_
  refine jw_W_ic rfl (by unfold jw_rg; omega) (by unfold jw_rg; omega) (fun hc1 => ?_) (fun hc1 => ?_)
  · have hc1 : (σ 13 1 + 20) ≤ 260 := hc1
    refine jw_W_n 2 (i' := 10) (ls' := [some (.inr (.inr 13)), some (.inl v1), some (.inl v2), some (.inl v3), some (.inl v4), some (.inl v5)]) (st' := [.inl v1, .inr (.inr 13)]) rfl ?_
    refine jw_W_call (as := [.inr (.inr 13), .inl v1]) (rest := []) rfl rfl rfl rfl (Nat.le_of_ble_eq_true rfl) (.inr rfl) (jx_put4 hb (by omega) (by omega) hv1) (by omega) ?_ rfl
    rintro r1 σ1 ⟨rfl, hf1, hb1⟩
    have hfr1 := hf1
    show jw_W (js_S n) _ md_114 11 [some (.inr (.inr 13)), some (.inl v1), some (.inl v2), some (.inl v3), some (.inl v4), some (.inl v5)] [] σ1 _
    refine jw_W_n 2 (i' := 13) (ls' := [some (.inr (.inr 13)), some (.inl v1), some (.inl v2), some (.inl v3), some (.inl v4), some (.inl v5)]) (st' := [.inl v2, .inr (.inr 13)]) rfl ?_
    refine jw_W_call (as := [.inr (.inr 13), .inl v2]) (rest := []) rfl rfl rfl rfl (Nat.le_of_ble_eq_true rfl) (.inr rfl) (jx_put4 hb1 (by omega) (by omega) hv2) (by omega) ?_ rfl
    rintro r1 σ2 ⟨rfl, hf2, hb2⟩
    have hfr2 := jn_f13_tr hfr1 hf2
    show jw_W (js_S n) _ md_114 14 [some (.inr (.inr 13)), some (.inl v1), some (.inl v2), some (.inl v3), some (.inl v4), some (.inl v5)] [] σ2 _
    refine jw_W_n 2 (i' := 16) (ls' := [some (.inr (.inr 13)), some (.inl v1), some (.inl v2), some (.inl v3), some (.inl v4), some (.inl v5)]) (st' := [.inl v3, .inr (.inr 13)]) rfl ?_
    refine jw_W_call (as := [.inr (.inr 13), .inl v3]) (rest := []) rfl rfl rfl rfl (Nat.le_of_ble_eq_true rfl) (.inr rfl) (jx_put4 hb2 (by omega) (by omega) hv3) (by omega) ?_ rfl
    rintro r1 σ3 ⟨rfl, hf3, hb3⟩
    have hfr3 := jn_f13_tr hfr2 hf3
    show jw_W (js_S n) _ md_114 17 [some (.inr (.inr 13)), some (.inl v1), some (.inl v2), some (.inl v3), some (.inl v4), some (.inl v5)] [] σ3 _
    refine jw_W_n 2 (i' := 19) (ls' := [some (.inr (.inr 13)), some (.inl v1), some (.inl v2), some (.inl v3), some (.inl v4), some (.inl v5)]) (st' := [.inl v4, .inr (.inr 13)]) rfl ?_
    refine jw_W_call (as := [.inr (.inr 13), .inl v4]) (rest := []) rfl rfl rfl rfl (Nat.le_of_ble_eq_true rfl) (.inr rfl) (jx_put4 hb3 (by omega) (by omega) hv4) (by omega) ?_ rfl
    rintro r1 σ4 ⟨rfl, hf4, hb4⟩
    have hfr4 := jn_f13_tr hfr3 hf4
    show jw_W (js_S n) _ md_114 20 [some (.inr (.inr 13)), some (.inl v1), some (.inl v2), some (.inl v3), some (.inl v4), some (.inl v5)] [] σ4 _
    refine jw_W_n 2 (i' := 22) (ls' := [some (.inr (.inr 13)), some (.inl v1), some (.inl v2), some (.inl v3), some (.inl v4), some (.inl v5)]) (st' := [.inl v5, .inr (.inr 13)]) rfl ?_
    refine jw_W_call (as := [.inr (.inr 13), .inl v5]) (rest := []) rfl rfl rfl rfl (Nat.le_of_ble_eq_true rfl) (.inr rfl) (jx_put4 hb4 (by omega) (by omega) hv5) (by omega) ?_ rfl
    rintro r1 σ5 ⟨rfl, hf5, hb5⟩
    have hfr5 := jn_f13_tr hfr4 hf5
    show jw_W (js_S n) _ md_114 23 [some (.inr (.inr 13)), some (.inl v1), some (.inl v2), some (.inl v3), some (.inl v4), some (.inl v5)] [] σ5 _
    refine jw_W_n 1 (i' := 24) (ls' := [some (.inr (.inr 13)), some (.inl v1), some (.inl v2), some (.inl v3), some (.inl v4), some (.inl v5)]) (st' := [.inr (.inr 13)]) rfl ?_
    refine jw_W_gf rfl rfl rfl ?_
    show jw_W (js_S n) _ md_114 25 [some (.inr (.inr 13)), some (.inl v1), some (.inl v2), some (.inl v3), some (.inl v4), some (.inl v5)] [.inl (σ5 13 1)] σ5 _
    refine jw_W_ir rfl ?_
    exact .inr ⟨by rw [hb5.1]; congr 2; omega, hfr5, by rw [show t + 20 = t + 4 + 4 + 4 + 4 + 4 by omega]; exact hb5, by omega⟩
  · have hc1 : ¬ ((σ 13 1 + 20) ≤ 260) := hc1
    refine jw_W_n 1 (i' := 7) (ls' := [some (.inr (.inr 13)), some (.inl v1), some (.inl v2), some (.inl v3), some (.inl v4), some (.inl v5)]) (st' := [.inl ((-1))]) rfl ?_
    refine jw_W_ir rfl ?_
    exact .inl ⟨rfl, rfl, by omega⟩
theorem jm_types {n : Nat} {σ : jw_H} {b : Int → Int} {t v : Int} (hb : jn_tm σ b t) (t0 : 0 ≤ t) (t1 : t + 4 ≤ 260) (hv : jw_rg v) : jw_T (js_S n) 1 183 [.inr (.inr 103), .inl v] σ (fun r σ' => r = none ∧ jn_f107 σ σ' ∧ jn_tm σ' (jn_bp b t v) (t + 4)) := by
  refine jw_T_of (D := 0) (M := mm_183) rfl (Nat.le_of_ble_eq_true rfl) (ls0 := [some (.inr (.inr 103)), some (.inl v), none]) rfl ?_ (by rintro _ _ ⟨rfl, -⟩; rfl)
  have hby := jn_byteM hv
  have hb1 := hb.1
  refine jw_W_n 3 (i' := 3) (ls' := [some (.inr (.inr 103)), some (.inl v), some (.inl 3)]) (st' := [.inl 3]) rfl ?_
  refine jw_W_if rfl (by unfold jw_rg; omega) (fun hc1 => ?_) (fun hc1 => ?_)
  · exact absurd hc1 (show ¬ ((3 : Int) < 0) by omega)
  · clear hc1
    refine jw_W_n 1 (i' := 5) (ls' := [some (.inr (.inr 103)), some (.inl v), some (.inl 3)]) (st' := [.inr (.inr 103)]) rfl ?_
    refine jw_W_gf rfl rfl rfl ?_
    show jw_W (js_S n) _ md_183 6 [some (.inr (.inr 103)), some (.inl v), some (.inl 3)] [.inr (.inr 107)] σ _
    refine jw_W_n 1 (i' := 7) (ls' := [some (.inr (.inr 103)), some (.inl v), some (.inl 3)]) (st' := [.inr (.inr 103), .inr (.inr 107)]) rfl ?_
    refine jw_W_gf rfl rfl rfl ?_
    show jw_W (js_S n) _ md_183 8 [some (.inr (.inr 103)), some (.inl v), some (.inl 3)] [.inl (σ 103 7), .inr (.inr 107)] σ _
    refine jw_W_n 6 (i' := 14) (ls' := [some (.inr (.inr 103)), some (.inl v), some (.inl 3)]) (st' := [.inl (jw_b (jw_shr v 24)), .inl (σ 103 7), .inr (.inr 107)]) rfl ?_
    refine jw_W_bs rfl (by omega) rfl (by omega) (by omega) (by omega) ?_
    refine jw_W_n 2 (i' := 17) (ls' := [some (.inr (.inr 103)), some (.inl v), some (.inl 3)]) (st' := [.inr (.inr 103), .inr (.inr 103)]) rfl ?_
    refine jw_W_gf rfl rfl rfl ?_
    show jw_W (js_S n) _ md_183 18 [some (.inr (.inr 103)), some (.inl v), some (.inl 3)] [.inl (σ 103 7), .inr (.inr 103)] ((jw_up σ 107 (σ 103 7) (jw_b (jw_b (jw_shr v 24))))) _
    refine jw_W_n 2 (i' := 20) (ls' := [some (.inr (.inr 103)), some (.inl v), some (.inl 3)]) (st' := [.inl (σ 103 7 + 1), .inr (.inr 103)]) rfl ?_
    refine jw_W_pf (a := σ 103 7 + 1) rfl (by omega) rfl rfl rfl rfl rfl ?_
    refine jw_W_n 3 (i' := 3) (ls' := [some (.inr (.inr 103)), some (.inl v), some (.inl 2)]) (st' := [.inl 2]) rfl ?_
    refine jw_W_if rfl (by unfold jw_rg; omega) (fun hc2 => ?_) (fun hc2 => ?_)
    · exact absurd hc2 (show ¬ ((2 : Int) < 0) by omega)
    · clear hc2
      refine jw_W_n 1 (i' := 5) (ls' := [some (.inr (.inr 103)), some (.inl v), some (.inl 2)]) (st' := [.inr (.inr 103)]) rfl ?_
      refine jw_W_gf rfl rfl rfl ?_
      show jw_W (js_S n) _ md_183 6 [some (.inr (.inr 103)), some (.inl v), some (.inl 2)] [.inr (.inr 107)] ((jw_up (jw_up σ 107 (σ 103 7) (jw_b (jw_b (jw_shr v 24)))) 103 7 (σ 103 7 + 1))) _
      refine jw_W_n 1 (i' := 7) (ls' := [some (.inr (.inr 103)), some (.inl v), some (.inl 2)]) (st' := [.inr (.inr 103), .inr (.inr 107)]) rfl ?_
      refine jw_W_gf rfl rfl rfl ?_
      show jw_W (js_S n) _ md_183 8 [some (.inr (.inr 103)), some (.inl v), some (.inl 2)] [.inl (σ 103 7 + 1), .inr (.inr 107)] ((jw_up (jw_up σ 107 (σ 103 7) (jw_b (jw_b (jw_shr v 24)))) 103 7 (σ 103 7 + 1))) _
      refine jw_W_n 6 (i' := 14) (ls' := [some (.inr (.inr 103)), some (.inl v), some (.inl 2)]) (st' := [.inl (jw_b (jw_shr v 16)), .inl (σ 103 7 + 1), .inr (.inr 107)]) rfl ?_
      refine jw_W_bs rfl (by omega) rfl (by omega) (by omega) (by omega) ?_
      refine jw_W_n 2 (i' := 17) (ls' := [some (.inr (.inr 103)), some (.inl v), some (.inl 2)]) (st' := [.inr (.inr 103), .inr (.inr 103)]) rfl ?_
      refine jw_W_gf rfl rfl rfl ?_
      show jw_W (js_S n) _ md_183 18 [some (.inr (.inr 103)), some (.inl v), some (.inl 2)] [.inl (σ 103 7 + 1), .inr (.inr 103)] ((jw_up (jw_up (jw_up σ 107 (σ 103 7) (jw_b (jw_b (jw_shr v 24)))) 103 7 (σ 103 7 + 1)) 107 (σ 103 7 + 1) (jw_b (jw_b (jw_shr v 16))))) _
      refine jw_W_n 2 (i' := 20) (ls' := [some (.inr (.inr 103)), some (.inl v), some (.inl 2)]) (st' := [.inl ((σ 103 7 + 1) + 1), .inr (.inr 103)]) rfl ?_
      refine jw_W_pf (a := (σ 103 7 + 1) + 1) rfl (by omega) rfl rfl rfl rfl rfl ?_
      refine jw_W_n 3 (i' := 3) (ls' := [some (.inr (.inr 103)), some (.inl v), some (.inl 1)]) (st' := [.inl 1]) rfl ?_
      refine jw_W_if rfl (by unfold jw_rg; omega) (fun hc3 => ?_) (fun hc3 => ?_)
      · exact absurd hc3 (show ¬ ((1 : Int) < 0) by omega)
      · clear hc3
        refine jw_W_n 1 (i' := 5) (ls' := [some (.inr (.inr 103)), some (.inl v), some (.inl 1)]) (st' := [.inr (.inr 103)]) rfl ?_
        refine jw_W_gf rfl rfl rfl ?_
        show jw_W (js_S n) _ md_183 6 [some (.inr (.inr 103)), some (.inl v), some (.inl 1)] [.inr (.inr 107)] ((jw_up (jw_up (jw_up (jw_up σ 107 (σ 103 7) (jw_b (jw_b (jw_shr v 24)))) 103 7 (σ 103 7 + 1)) 107 (σ 103 7 + 1) (jw_b (jw_b (jw_shr v 16)))) 103 7 ((σ 103 7 + 1) + 1))) _
        refine jw_W_n 1 (i' := 7) (ls' := [some (.inr (.inr 103)), some (.inl v), some (.inl 1)]) (st' := [.inr (.inr 103), .inr (.inr 107)]) rfl ?_
        refine jw_W_gf rfl rfl rfl ?_
        show jw_W (js_S n) _ md_183 8 [some (.inr (.inr 103)), some (.inl v), some (.inl 1)] [.inl ((σ 103 7 + 1) + 1), .inr (.inr 107)] ((jw_up (jw_up (jw_up (jw_up σ 107 (σ 103 7) (jw_b (jw_b (jw_shr v 24)))) 103 7 (σ 103 7 + 1)) 107 (σ 103 7 + 1) (jw_b (jw_b (jw_shr v 16)))) 103 7 ((σ 103 7 + 1) + 1))) _
        refine jw_W_n 6 (i' := 14) (ls' := [some (.inr (.inr 103)), some (.inl v), some (.inl 1)]) (st' := [.inl (jw_b (jw_shr v 8)), .inl ((σ 103 7 + 1) + 1), .inr (.inr 107)]) rfl ?_
        refine jw_W_bs rfl (by omega) rfl (by omega) (by omega) (by omega) ?_
        refine jw_W_n 2 (i' := 17) (ls' := [some (.inr (.inr 103)), some (.inl v), some (.inl 1)]) (st' := [.inr (.inr 103), .inr (.inr 103)]) rfl ?_
        refine jw_W_gf rfl rfl rfl ?_
        show jw_W (js_S n) _ md_183 18 [some (.inr (.inr 103)), some (.inl v), some (.inl 1)] [.inl ((σ 103 7 + 1) + 1), .inr (.inr 103)] ((jw_up (jw_up (jw_up (jw_up (jw_up σ 107 (σ 103 7) (jw_b (jw_b (jw_shr v 24)))) 103 7 (σ 103 7 + 1)) 107 (σ 103 7 + 1) (jw_b (jw_b (jw_shr v 16)))) 103 7 ((σ 103 7 + 1) + 1)) 107 ((σ 103 7 + 1) + 1) (jw_b (jw_b (jw_shr v 8))))) _
        refine jw_W_n 2 (i' := 20) (ls' := [some (.inr (.inr 103)), some (.inl v), some (.inl 1)]) (st' := [.inl (((σ 103 7 + 1) + 1) + 1), .inr (.inr 103)]) rfl ?_
        refine jw_W_pf (a := ((σ 103 7 + 1) + 1) + 1) rfl (by omega) rfl rfl rfl rfl rfl ?_
        refine jw_W_n 3 (i' := 3) (ls' := [some (.inr (.inr 103)), some (.inl v), some (.inl 0)]) (st' := [.inl 0]) rfl ?_
        refine jw_W_if rfl (by unfold jw_rg; omega) (fun hc4 => ?_) (fun hc4 => ?_)
        · exact absurd hc4 (show ¬ ((0 : Int) < 0) by omega)
        · clear hc4
          refine jw_W_n 1 (i' := 5) (ls' := [some (.inr (.inr 103)), some (.inl v), some (.inl 0)]) (st' := [.inr (.inr 103)]) rfl ?_
          refine jw_W_gf rfl rfl rfl ?_
          show jw_W (js_S n) _ md_183 6 [some (.inr (.inr 103)), some (.inl v), some (.inl 0)] [.inr (.inr 107)] ((jw_up (jw_up (jw_up (jw_up (jw_up (jw_up σ 107 (σ 103 7) (jw_b (jw_b (jw_shr v 24)))) 103 7 (σ 103 7 + 1)) 107 (σ 103 7 + 1) (jw_b (jw_b (jw_shr v 16)))) 103 7 ((σ 103 7 + 1) + 1)) 107 ((σ 103 7 + 1) + 1) (jw_b (jw_b (jw_shr v 8)))) 103 7 (((σ 103 7 + 1) + 1) + 1))) _
          refine jw_W_n 1 (i' := 7) (ls' := [some (.inr (.inr 103)), some (.inl v), some (.inl 0)]) (st' := [.inr (.inr 103), .inr (.inr 107)]) rfl ?_
          refine jw_W_gf rfl rfl rfl ?_
          show jw_W (js_S n) _ md_183 8 [some (.inr (.inr 103)), some (.inl v), some (.inl 0)] [.inl (((σ 103 7 + 1) + 1) + 1), .inr (.inr 107)] ((jw_up (jw_up (jw_up (jw_up (jw_up (jw_up σ 107 (σ 103 7) (jw_b (jw_b (jw_shr v 24)))) 103 7 (σ 103 7 + 1)) 107 (σ 103 7 + 1) (jw_b (jw_b (jw_shr v 16)))) 103 7 ((σ 103 7 + 1) + 1)) 107 ((σ 103 7 + 1) + 1) (jw_b (jw_b (jw_shr v 8)))) 103 7 (((σ 103 7 + 1) + 1) + 1))) _
          refine jw_W_n 6 (i' := 14) (ls' := [some (.inr (.inr 103)), some (.inl v), some (.inl 0)]) (st' := [.inl (jw_b (jw_shr v 0)), .inl (((σ 103 7 + 1) + 1) + 1), .inr (.inr 107)]) rfl ?_
          refine jw_W_bs rfl (by omega) rfl (by omega) (by omega) (by omega) ?_
          refine jw_W_n 2 (i' := 17) (ls' := [some (.inr (.inr 103)), some (.inl v), some (.inl 0)]) (st' := [.inr (.inr 103), .inr (.inr 103)]) rfl ?_
          refine jw_W_gf rfl rfl rfl ?_
          show jw_W (js_S n) _ md_183 18 [some (.inr (.inr 103)), some (.inl v), some (.inl 0)] [.inl (((σ 103 7 + 1) + 1) + 1), .inr (.inr 103)] ((jw_up (jw_up (jw_up (jw_up (jw_up (jw_up (jw_up σ 107 (σ 103 7) (jw_b (jw_b (jw_shr v 24)))) 103 7 (σ 103 7 + 1)) 107 (σ 103 7 + 1) (jw_b (jw_b (jw_shr v 16)))) 103 7 ((σ 103 7 + 1) + 1)) 107 ((σ 103 7 + 1) + 1) (jw_b (jw_b (jw_shr v 8)))) 103 7 (((σ 103 7 + 1) + 1) + 1)) 107 (((σ 103 7 + 1) + 1) + 1) (jw_b (jw_b (jw_shr v 0))))) _
          refine jw_W_n 2 (i' := 20) (ls' := [some (.inr (.inr 103)), some (.inl v), some (.inl 0)]) (st' := [.inl ((((σ 103 7 + 1) + 1) + 1) + 1), .inr (.inr 103)]) rfl ?_
          refine jw_W_pf (a := (((σ 103 7 + 1) + 1) + 1) + 1) rfl (by omega) rfl rfl rfl rfl rfl ?_
          refine jw_W_n 3 (i' := 3) (ls' := [some (.inr (.inr 103)), some (.inl v), some (.inl ((-1)))]) (st' := [.inl ((-1))]) rfl ?_
          refine jw_W_if rfl (by unfold jw_rg; omega) (fun hc5 => ?_) (fun hc5 => ?_)
          · clear hc5
            refine jw_W_re rfl ?_
            refine ⟨rfl, jn_up107 (jn_up107 (jn_up107 (jn_up107 (jn_up107 (jn_up107 (jn_up107 (jn_up107 (jn_f107_rf σ) (by omega)) (by omega)) (by omega)) (by omega)) (by omega)) (by omega)) (by omega)) (by omega), ?_, fun j j0 j1 => ?_⟩
            · exact (jw_up_eq _ _ _ _).trans (by omega)
            · unfold jn_bp
              by_cases e3 : j = t + 3
              · rw [if_neg (by omega), if_neg (by omega), if_neg (by omega), if_pos e3, jw_up_ne _ (by omega), show j = σ 103 7 + 1 + 1 + 1 by omega, jw_up_eq]
                exact ⟨hby.1.2.2.2, hby.2.2.2.2⟩
              · by_cases e2 : j = t + 2
                · rw [if_neg (by omega), if_neg (by omega), if_pos e2, jw_up_ne _ (by omega), jw_up_ne _ (by omega), jw_up_ne _ (by omega), show j = σ 103 7 + 1 + 1 by omega, jw_up_eq]
                  exact ⟨hby.1.2.2.1, hby.2.2.2.1⟩
                · by_cases e1 : j = t + 1
                  · rw [if_neg (by omega), if_pos e1, jw_up_ne _ (by omega), jw_up_ne _ (by omega), jw_up_ne _ (by omega), jw_up_ne _ (by omega), jw_up_ne _ (by omega), show j = σ 103 7 + 1 by omega, jw_up_eq]
                    exact ⟨hby.1.2.1, hby.2.2.1⟩
                  · by_cases e0 : j = t
                    · rw [if_pos e0, jw_up_ne _ (by omega), jw_up_ne _ (by omega), jw_up_ne _ (by omega), jw_up_ne _ (by omega), jw_up_ne _ (by omega), jw_up_ne _ (by omega), jw_up_ne _ (by omega), show j = σ 103 7 by omega, jw_up_eq]
                      exact ⟨hby.1.1, hby.2.1⟩
                    · rw [if_neg e0, if_neg e1, if_neg e2, if_neg e3, jw_up_ne _ (by omega), jw_up_ne _ (by omega), jw_up_ne _ (by omega), jw_up_ne _ (by omega), jw_up_ne _ (by omega), jw_up_ne _ (by omega), jw_up_ne _ (by omega), jw_up_ne _ (by omega)]
                      exact hb.2 j j0 (by omega)
          · exact absurd hc5 (show ¬ ¬ ((((-1 : Int))) < 0) by omega)
theorem jm_feed {n : Nat} {σ : jw_H} {b : Int → Int} {t v1 v2 v3 v4 v5 : Int} (hb : jn_tm σ b t) (t0 : 0 ≤ t) (t1 : t ≤ 260) (hv1 : jw_rg v1) (hv2 : jw_rg v2) (hv3 : jw_rg v3) (hv4 : jw_rg v4) (hv5 : jw_rg v5) : jw_T (js_S n) 2 184 [.inr (.inr 103), .inl v1, .inl v2, .inl v3, .inl v4, .inl v5] σ (fun r σ' => (r = some (.inl (-1)) ∧ σ' = σ ∧ 240 < t) ∨ (r = some (.inl (t + 20)) ∧ jn_f107 σ σ' ∧ jn_tm σ' (jn_b20 b t v1 v2 v3 v4 v5) (t + 20) ∧ t ≤ 240)) := by
  refine jw_T_of (D := 1) (M := mm_184) rfl (Nat.le_of_ble_eq_true rfl) (ls0 := [some (.inr (.inr 103)), some (.inl v1), some (.inl v2), some (.inl v3), some (.inl v4), some (.inl v5)]) rfl ?_ (by rintro _ _ (⟨rfl, -⟩ | ⟨rfl, -⟩) <;> rfl)
  have hb0 := hb.1
  refine jw_W_n 1 (i' := 1) (ls' := [some (.inr (.inr 103)), some (.inl v1), some (.inl v2), some (.inl v3), some (.inl v4), some (.inl v5)]) (st' := [.inr (.inr 103)]) rfl ?_
  refine jw_W_gf rfl rfl rfl ?_
  show jw_W (js_S n) _ md_184 2 [some (.inr (.inr 103)), some (.inl v1), some (.inl v2), some (.inl v3), some (.inl v4), some (.inl v5)] [.inl (σ 103 7)] σ _
  refine jw_W_n 3 (i' := 5) (ls' := [some (.inr (.inr 103)), some (.inl v1), some (.inl v2), some (.inl v3), some (.inl v4), some (.inl v5)]) (st' := [.inl 260, .inl (σ 103 7 + 20)]) rfl ?_
  refine jw_W_ic rfl (by unfold jw_rg; omega) (by unfold jw_rg; omega) (fun hc1 => ?_) (fun hc1 => ?_)
  · have hc1 : (σ 103 7 + 20) ≤ 260 := hc1
    refine jw_W_n 2 (i' := 10) (ls' := [some (.inr (.inr 103)), some (.inl v1), some (.inl v2), some (.inl v3), some (.inl v4), some (.inl v5)]) (st' := [.inl v1, .inr (.inr 103)]) rfl ?_
    refine jw_W_call (as := [.inr (.inr 103), .inl v1]) (rest := []) rfl rfl rfl rfl (Nat.le_of_ble_eq_true rfl) (.inr rfl) (jm_types hb (by omega) (by omega) hv1) (by omega) ?_ rfl
    rintro r1 σ1 ⟨rfl, hf1, hb1⟩
    have hfr1 := hf1
    show jw_W (js_S n) _ md_184 11 [some (.inr (.inr 103)), some (.inl v1), some (.inl v2), some (.inl v3), some (.inl v4), some (.inl v5)] [] σ1 _
    refine jw_W_n 2 (i' := 13) (ls' := [some (.inr (.inr 103)), some (.inl v1), some (.inl v2), some (.inl v3), some (.inl v4), some (.inl v5)]) (st' := [.inl v2, .inr (.inr 103)]) rfl ?_
    refine jw_W_call (as := [.inr (.inr 103), .inl v2]) (rest := []) rfl rfl rfl rfl (Nat.le_of_ble_eq_true rfl) (.inr rfl) (jm_types hb1 (by omega) (by omega) hv2) (by omega) ?_ rfl
    rintro r1 σ2 ⟨rfl, hf2, hb2⟩
    have hfr2 := jn_f107_tr hfr1 hf2
    show jw_W (js_S n) _ md_184 14 [some (.inr (.inr 103)), some (.inl v1), some (.inl v2), some (.inl v3), some (.inl v4), some (.inl v5)] [] σ2 _
    refine jw_W_n 2 (i' := 16) (ls' := [some (.inr (.inr 103)), some (.inl v1), some (.inl v2), some (.inl v3), some (.inl v4), some (.inl v5)]) (st' := [.inl v3, .inr (.inr 103)]) rfl ?_
    refine jw_W_call (as := [.inr (.inr 103), .inl v3]) (rest := []) rfl rfl rfl rfl (Nat.le_of_ble_eq_true rfl) (.inr rfl) (jm_types hb2 (by omega) (by omega) hv3) (by omega) ?_ rfl
    rintro r1 σ3 ⟨rfl, hf3, hb3⟩
    have hfr3 := jn_f107_tr hfr2 hf3
    show jw_W (js_S n) _ md_184 17 [some (.inr (.inr 103)), some (.inl v1), some (.inl v2), some (.inl v3), some (.inl v4), some (.inl v5)] [] σ3 _
    refine jw_W_n 2 (i' := 19) (ls' := [some (.inr (.inr 103)), some (.inl v1), some (.inl v2), some (.inl v3), some (.inl v4), some (.inl v5)]) (st' := [.inl v4, .inr (.inr 103)]) rfl ?_
    refine jw_W_call (as := [.inr (.inr 103), .inl v4]) (rest := []) rfl rfl rfl rfl (Nat.le_of_ble_eq_true rfl) (.inr rfl) (jm_types hb3 (by omega) (by omega) hv4) (by omega) ?_ rfl
    rintro r1 σ4 ⟨rfl, hf4, hb4⟩
    have hfr4 := jn_f107_tr hfr3 hf4
    show jw_W (js_S n) _ md_184 20 [some (.inr (.inr 103)), some (.inl v1), some (.inl v2), some (.inl v3), some (.inl v4), some (.inl v5)] [] σ4 _
    refine jw_W_n 2 (i' := 22) (ls' := [some (.inr (.inr 103)), some (.inl v1), some (.inl v2), some (.inl v3), some (.inl v4), some (.inl v5)]) (st' := [.inl v5, .inr (.inr 103)]) rfl ?_
    refine jw_W_call (as := [.inr (.inr 103), .inl v5]) (rest := []) rfl rfl rfl rfl (Nat.le_of_ble_eq_true rfl) (.inr rfl) (jm_types hb4 (by omega) (by omega) hv5) (by omega) ?_ rfl
    rintro r1 σ5 ⟨rfl, hf5, hb5⟩
    have hfr5 := jn_f107_tr hfr4 hf5
    show jw_W (js_S n) _ md_184 23 [some (.inr (.inr 103)), some (.inl v1), some (.inl v2), some (.inl v3), some (.inl v4), some (.inl v5)] [] σ5 _
    refine jw_W_n 1 (i' := 24) (ls' := [some (.inr (.inr 103)), some (.inl v1), some (.inl v2), some (.inl v3), some (.inl v4), some (.inl v5)]) (st' := [.inr (.inr 103)]) rfl ?_
    refine jw_W_gf rfl rfl rfl ?_
    show jw_W (js_S n) _ md_184 25 [some (.inr (.inr 103)), some (.inl v1), some (.inl v2), some (.inl v3), some (.inl v4), some (.inl v5)] [.inl (σ5 103 7)] σ5 _
    refine jw_W_ir rfl ?_
    exact .inr ⟨by rw [hb5.1]; congr 2; omega, hfr5, by rw [show t + 20 = t + 4 + 4 + 4 + 4 + 4 by omega]; exact hb5, by omega⟩
  · have hc1 : ¬ ((σ 103 7 + 20) ≤ 260) := hc1
    refine jw_W_n 1 (i' := 7) (ls' := [some (.inr (.inr 103)), some (.inl v1), some (.inl v2), some (.inl v3), some (.inl v4), some (.inl v5)]) (st' := [.inl ((-1))]) rfl ?_
    refine jw_W_ir rfl ?_
    exact .inl ⟨rfl, rfl, by omega⟩
theorem jn_bp_rg {b : Int → Int} {t v : Int} (h : ∀ j, 0 ≤ j → j < t → 0 ≤ b j ∧ b j ≤ 255) : ∀ j, 0 ≤ j → j < t + 4 → 0 ≤ jn_bp b t v j ∧ jn_bp b t v j ≤ 255 := by
  intro j j0 j1
  unfold jn_bp
  by_cases e0 : j = t
  · rw [if_pos e0]
    omega
  · rw [if_neg e0]
    by_cases e1 : j = t + 1
    · rw [if_pos e1]
      omega
    · rw [if_neg e1]
      by_cases e2 : j = t + 2
      · rw [if_pos e2]
        omega
      · rw [if_neg e2]
        by_cases e3 : j = t + 3
        · rw [if_pos e3]
          omega
        · rw [if_neg e3]
          exact h j j0 (by omega)
theorem jn_b20_rg {b : Int → Int} {t v1 v2 v3 v4 v5 : Int} (h : ∀ j, 0 ≤ j → j < t → 0 ≤ b j ∧ b j ≤ 255) : ∀ j, 0 ≤ j → j < t + 20 → 0 ≤ jn_b20 b t v1 v2 v3 v4 v5 j ∧ jn_b20 b t v1 v2 v3 v4 v5 j ≤ 255 := by
  intro j j0 j1
  exact jn_bp_rg (jn_bp_rg (jn_bp_rg (jn_bp_rg (jn_bp_rg h)))) j j0 (by omega)
