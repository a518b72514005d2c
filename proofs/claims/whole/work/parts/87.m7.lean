/-! ===== the reference's body: it is cut: its edges ===== -/
/-- the second loop, so far -/
def jm_c2 (σ0 : jw_H) (h : ge_R) (A : List (ge_R × Int)) (σ : jw_H) : Prop := jm_fr σ0 σ ∧ jm_is σ A ∧ ∀ (i : Nat) (x : ge_R × Int), A[i]? = some x → σ 129 (i : Int) = ge_s h x.1
theorem jm_c1_c2 {σ0 σ : jw_H} {h : ge_R} {b : Int} {L : List (ge_R × Int)} (H : jm_c1 σ0 h b L σ (L.length : Int)) : jm_c2 σ0 h (L.map (jm_bit b h)) σ := by
  obtain ⟨a1, a2, a3⟩ := H
  have key : ∀ (i : Nat) (y : ge_R × Int), (L.map (jm_bit b h))[i]? = some y → ∃ x, L[i]? = some x ∧ y = jm_bit b h x ∧ (i : Int) < (L.length : Int) := by
    intro i y hy
    rw [List.getElem?_map] at hy
    match hx : L[i]? with
    | none => rw [hx] at hy; cases hy
    | some x =>
      rw [hx] at hy
      cases hy
      have := (List.getElem?_eq_some_iff.mp hx).1
      exact ⟨x, rfl, rfl, by omega⟩
  refine ⟨a1, ⟨by rw [List.length_map]; exact a2, fun i y hy => ?_⟩, fun i y hy => ?_⟩
  · obtain ⟨x, hx, rfl, hi⟩ := key i y hy
    obtain ⟨b1, b2, -⟩ := a3 i x hx
    exact ⟨b1, (b2 hi).2⟩
  · obtain ⟨x, hx, rfl, hi⟩ := key i y hy
    exact ((a3 i x hx).2.1 hi).1
theorem jm_gt_c2 {n : Nat} {σ0 σ : jw_H} {h : ge_R} {A : List (ge_R × Int)} {b p q S X : Int} {x y : ge_R × Int} (H : jm_c2 σ0 h A σ) (hN : jm_Ns σ0) (q1 : 1 ≤ σ0 103 3) (q2 : σ0 103 3 ≤ 3) (hA : jm_ed σ0 x y = true → A.length < 64) (p0 : 0 ≤ p) (q0 : 0 ≤ q) (p64 : p < 64) (q64 : q < 64) (hx : A[p.toNat]? = some x) (hy : A[q.toNat]? = some y) (b0 : 0 ≤ b) (b1 : b < 20) (tx : 0 ≤ x.2 ∧ x.2 ≤ 1048575) (ty : 0 ≤ y.2 ∧ y.2 ≤ 1048575) (sx : ge_s h x.1 < 0) (sx2 : -S ≤ ge_s h x.1) (sy : 0 < ge_s h y.1) (sy2 : ge_s h y.1 ≤ S) (bx : jm_in4 X x.1) (by' : jm_in4 X y.1) (hS : S * X ≤ 4600000000000000000) : jw_T (js_S n) 3 239 [.inr (.inr 103), .inl p, .inl q, .inl b] σ (fun r σ' => (r = none ∧ jm_c2 σ0 h (A ++ [(ge_pp (ge_cr h x.1 y.1), jm_nt b x.2 y.2)]) σ' ∧ jm_ed σ0 x y = true) ∨ (r = none ∧ jm_c2 σ0 h A σ' ∧ ¬ jm_ed σ0 x y = true)) := by
  obtain ⟨a1, a2, a3⟩ := H
  obtain ⟨f1, f2, f3, f4⟩ := jm_fr_N a1
  have lx := (List.getElem?_eq_some_iff.mp hx).1
  have ly := (List.getElem?_eq_some_iff.mp hy).1
  obtain ⟨c1, c2⟩ := a2.2 _ _ hx
  obtain ⟨d1, d2⟩ := a2.2 _ _ hy
  have c3 := a3 _ _ hx
  have d3 := a3 _ _ hy
  rw [Int.toNat_of_nonneg p0] at c1 c2 c3
  rw [Int.toNat_of_nonneg q0] at d1 d2 d3
  have c4 : (σ 125 p, σ 126 p, σ 127 p, σ 128 p) = x.1 := c1
  have d4 : (σ 125 q, σ 126 q, σ 127 q, σ 128 q) = y.1 := d1
  have hLL : jm_LL σ (jw_and (σ 130 p) (σ 130 q)) ↔ jm_ed σ0 x y = true := by
    rw [c2, d2, jm_fr_LL a1]
    exact (@decide_eq_true_iff _ (Classical.propDecidable _)).symm
  rw [← c4] at bx
  rw [← d4] at by'
  obtain ⟨bx1, bx2, bx3, bx4⟩ := bx
  obtain ⟨by1, by2, by3, by4⟩ := by'
  refine jw_T_mono (jm_goesThrough (S := S) (X := X) (m := (A.length : Int)) (f3 hN) (by rw [f2]; exact q1) (by rw [f2]; exact q2) a2.1 (by omega) (fun w => by have := hA (hLL.mp w); omega) p0 p64 q0 q64 b0 b1 (by rw [c2]; exact tx) (by rw [d2]; exact ty) (by rw [c3]; exact sx) (by rw [c3]; exact sx2) (by rw [d3]; exact sy) (by rw [d3]; exact sy2) bx1 by1 bx2 by2 bx3 by3 bx4 by4 hS) (Nat.le_refl _) ?_
  rintro r σ' (⟨rfl, rfl, hl⟩ | ⟨rfl, rfl, hl⟩)
  · refine .inl ⟨rfl, ?_, hLL.mp hl⟩
    have ecs : jm_cs σ p q = ge_cr h x.1 y.1 := by
      simp only [jm_cs, ge_cr, c3, d3]
      rw [← c4, ← d4]
    have eg : jm_gt σ p q b (A.length : Int) = jw_up (jw_up (jm_lpp σ (A.length : Int) (ge_pp (ge_cr h x.1 y.1)) (jm_nt b x.2 y.2)) 129 (A.length : Int) 0) 103 46 ((A.length : Int) + 1) := by
      unfold jm_gt jm_nt
      rw [ecs, c2, d2]
    rw [eg]
    refine ⟨jm_fr_up (jm_fr_up (jm_fr_lpp a1) (by omega)) (by omega), ⟨by rw [jw_up_eq, List.length_append]; simp, fun i z hz => ?_⟩, fun i z hz => ?_⟩
    · have e1 : jm_pt (jw_up (jw_up (jm_lpp σ (A.length : Int) (ge_pp (ge_cr h x.1 y.1)) (jm_nt b x.2 y.2)) 129 (A.length : Int) 0) 103 46 ((A.length : Int) + 1)) (i : Int) = jm_pt (jm_lpp σ (A.length : Int) (ge_pp (ge_cr h x.1 y.1)) (jm_nt b x.2 y.2)) (i : Int) := by simp [jm_pt, jw_up]
      rw [e1, jw_up_ne _ (by omega), jw_up_ne _ (by omega), jm_pt_lpp, jm_tt_lpp]
      by_cases hi : i < A.length
      · rw [List.getElem?_append_left hi] at hz
        rw [if_neg (by omega), if_neg (by omega)]
        exact a2.2 i z hz
      · rw [List.getElem?_append_right (by omega)] at hz
        have hi2 : i = A.length := by
          have := (List.getElem?_eq_some_iff.mp hz).1
          simp at this
          omega
        subst hi2
        simp at hz
        subst hz
        rw [if_pos rfl, if_pos rfl]
        exact ⟨rfl, rfl⟩
    · rw [jw_up_ne _ (by omega)]
      by_cases hi : i < A.length
      · rw [List.getElem?_append_left hi] at hz
        rw [jw_up_ne _ (by omega), jm_o_lpp _ _ _ _ (.inl rfl)]
        exact a3 i z hz
      · rw [List.getElem?_append_right (by omega)] at hz
        have hi2 : i = A.length := by
          have := (List.getElem?_eq_some_iff.mp hz).1
          simp at this
          omega
        subst hi2
        simp at hz
        subst hz
        rw [jw_up_eq]
        have wx : 0 < x.1.2.2.2 := by rw [← c4]; exact bx4.1
        have wy : 0 < y.1.2.2.2 := by rw [← d4]; exact by4.1
        have w : 0 < (ge_cr h x.1 y.1).2.2.2 := by
          have h1 := Int.mul_pos sy wx
          have h2 := Int.mul_pos (show 0 < - ge_s h x.1 by omega) wy
          rw [Int.neg_mul] at h2
          simp only [ge_cr]
          omega
        obtain ⟨e, g, wp⟩ := ge_pp_ok w
        exact ((ge_sgn (ge_e_s e h) w wp).2.mpr (ge_cr_h h x.1 y.1)).symm
  · exact .inr ⟨rfl, ⟨a1, a2, a3⟩, fun w => hl (hLL.mpr w)⟩
/-- what one point gives with others -/
def jm_inn (h : ge_R) (ed : (ge_R × Int) → (ge_R × Int) → Bool) (nt : Int → Int → Int) (x : ge_R × Int) (M : List (ge_R × Int)) : List (ge_R × Int) := M.flatMap (fun y => if 0 < ge_s h y.1 ∧ ed x y = true then [(ge_pp (ge_cr h x.1 y.1), nt x.2 y.2)] else [])
theorem jm_take {α : Type} {L : List α} {q : Int} {y : α} (q0 : 0 ≤ q) (hy : L[q.toNat]? = some y) : L.take (q + 1).toNat = L.take q.toNat ++ [y] := by
  have e : (q + 1).toNat = q.toNat + 1 := by omega
  rw [e, List.take_succ, hy]
  rfl
theorem jm_inn_s {h : ge_R} {ed : (ge_R × Int) → (ge_R × Int) → Bool} {nt : Int → Int → Int} {x y : ge_R × Int} {L : List (ge_R × Int)} {q : Int} (q0 : 0 ≤ q) (hy : L[q.toNat]? = some y) : jm_inn h ed nt x (L.take (q + 1).toNat) = jm_inn h ed nt x (L.take q.toNat) ++ (if 0 < ge_s h y.1 ∧ ed x y = true then [(ge_pp (ge_cr h x.1 y.1), nt x.2 y.2)] else []) := by
  unfold jm_inn
  rw [jm_take q0 hy, List.flatMap_append]
  simp
theorem jm_new_s {h : ge_R} {ed : (ge_R × Int) → (ge_R × Int) → Bool} {nt : Int → Int → Int} {x : ge_R × Int} {L M : List (ge_R × Int)} {p : Int} (p0 : 0 ≤ p) (hx : L[p.toNat]? = some x) : ge_new h ed nt (L.take (p + 1).toNat) M = ge_new h ed nt (L.take p.toNat) M ++ (if ge_s h x.1 < 0 then jm_inn h ed nt x M else []) := by
  unfold ge_new jm_inn
  rw [jm_take p0 hx, List.flatMap_append]
  simp
theorem jm_new_len {h : ge_R} {ed : (ge_R × Int) → (ge_R × Int) → Bool} {nt : Int → Int → Int} {x y : ge_R × Int} {L : List (ge_R × Int)} {p q : Int} (p0 : 0 ≤ p) (hx : L[p.toNat]? = some x) (sx : ge_s h x.1 < 0) (q0 : 0 ≤ q) (hy : L[q.toNat]? = some y) (sy : 0 < ge_s h y.1) (hd : ed x y = true) : (ge_new h ed nt (L.take p.toNat) L).length + (jm_inn h ed nt x (L.take q.toNat)).length < (ge_new h ed nt L L).length := by
  have e1 : ge_new h ed nt L L = ge_new h ed nt (L.take (p + 1).toNat) L ++ ge_new h ed nt (L.drop (p + 1).toNat) L := by
    unfold ge_new
    rw [← List.flatMap_append, List.take_append_drop]
  have e2 : jm_inn h ed nt x L = jm_inn h ed nt x (L.take (q + 1).toNat) ++ jm_inn h ed nt x (L.drop (q + 1).toNat) := by
    unfold jm_inn
    rw [← List.flatMap_append, List.take_append_drop]
  rw [e1, jm_new_s p0 hx, if_pos sx, e2, jm_inn_s q0 hy, if_pos ⟨sy, hd⟩]
  simp only [List.length_append, List.length_singleton]
  omega
theorem jm_cuts2i {n : Nat} {σ0 : jw_H} {b u S X : Int} {h : ge_R} {L : List (ge_R × Int)} {D : Nat} {Q : Option jw_V → jw_H → Prop} (hD : 3 ≤ D) (hN : jm_Ns σ0) (q1 : 1 ≤ σ0 103 3) (q2 : σ0 103 3 ≤ 3) (b0 : 0 ≤ b) (b1 : b < 20) (hs : ∀ x ∈ L, -S ≤ ge_s h x.1 ∧ ge_s h x.1 ≤ S) (hS2 : S ≤ 9200000000000000000) (ht : ∀ x ∈ L, 0 ≤ x.2 ∧ x.2 ≤ 1048575) (hb : ∀ x ∈ L, jm_in4 X x.1) (hS : S * X ≤ 4600000000000000000) (hTot : L.length + (ge_new h (jm_ed σ0) (jm_nt b) L L).length ≤ 64) {k : Int} {x : ge_R × Int} (k0 : 0 ≤ k) (hx : L[k.toNat]? = some x) (sx : ge_s h x.1 < 0) (kk : ∀ σ1 j, jm_c2 σ0 h (L ++ (ge_new h (jm_ed σ0) (jm_nt b) (L.take k.toNat) L ++ jm_inn h (jm_ed σ0) (jm_nt b) x L)) σ1 → jw_W (js_S n) D md_240 69 [some (.inr (.inr 103)), some (.inl b), some (.inr (.inl u)), none, some (.inl ((L.length : Int))), some (.inl k), some (.inl j)] [] σ1 Q) : ∀ (m : Nat) {σ : jw_H} {j : Int}, 0 ≤ j → j + m = (L.length : Int) → jm_c2 σ0 h (L ++ (ge_new h (jm_ed σ0) (jm_nt b) (L.take k.toNat) L ++ jm_inn h (jm_ed σ0) (jm_nt b) x (L.take j.toNat))) σ → jw_W (js_S n) D md_240 45 [some (.inr (.inr 103)), some (.inl b), some (.inr (.inl u)), none, some (.inl ((L.length : Int))), some (.inl k), some (.inl j)] [] σ Q
  | m, σ, j, j0, hj, hI => by
    have ih : ∀ {σ' : jw_H}, j < (L.length : Int) → jm_c2 σ0 h (L ++ (ge_new h (jm_ed σ0) (jm_nt b) (L.take k.toNat) L ++ jm_inn h (jm_ed σ0) (jm_nt b) x (L.take (j + 1).toNat))) σ' → jw_W (js_S n) D md_240 45 [some (.inr (.inr 103)), some (.inl b), some (.inr (.inl u)), none, some (.inl ((L.length : Int))), some (.inl k), some (.inl (j + 1))] [] σ' Q := by
      intro σ' h1 h2
      match m, hj with
      | 0, hj => omega
      | m + 1, hj => exact jm_cuts2i hD hN q1 q2 b0 b1 hs hS2 ht hb hS hTot k0 hx sx kk m (by omega) (by omega) h2
    have hl64 : L.length ≤ 64 := by omega
    have lx := (List.getElem?_eq_some_iff.mp hx).1
    have hxm : x ∈ L := List.mem_of_getElem? hx
    have hxA := List.getElem?_append_left (l₂ := (ge_new h (jm_ed σ0) (jm_nt b) (L.take k.toNat) L ++ jm_inn h (jm_ed σ0) (jm_nt b) x (L.take j.toNat))) lx
    rw [hx] at hxA
    have hsx := hI.2.2 _ _ hxA
    rw [Int.toNat_of_nonneg k0] at hsx
    have hxs := hs x hxm
    have hy' : j < (L.length : Int) → ∃ y, L[j.toNat]? = some y ∧ y ∈ L := fun h => by
      have h3 : j.toNat < L.length := by omega
      exact ⟨L[j.toNat], List.getElem?_eq_getElem h3, List.getElem_mem h3⟩
    refine jw_W_n 2 (i' := 47) (ls' := [some (.inr (.inr 103)), some (.inl b), some (.inr (.inl u)), none, some (.inl ((L.length : Int))), some (.inl k), some (.inl j)]) (st' := [.inl ((L.length : Int)), .inl j]) rfl ?_
    refine jw_W_ic rfl (by unfold jw_rg; omega) (by unfold jw_rg; omega) (fun hc1 => ?_) (fun hc1 => ?_)
    · have hc1 : j ≥ ((L.length : Int)) := hc1
      first
        | (have hjl : j.toNat = L.length := by omega
           rw [hjl, List.take_length] at hI
           exact kk σ j hI)
        | (exfalso; omega)
    · have hc1 : ¬ (j ≥ ((L.length : Int))) := hc1
      obtain ⟨y, hy, hym⟩ := hy' (by omega)
      have hyA := List.getElem?_append_left (l₂ := (ge_new h (jm_ed σ0) (jm_nt b) (L.take k.toNat) L ++ jm_inn h (jm_ed σ0) (jm_nt b) x (L.take j.toNat))) (List.getElem?_eq_some_iff.mp hy).1
      rw [hy] at hyA
      have hsy := hI.2.2 _ _ hyA
      rw [Int.toNat_of_nonneg j0] at hsy
      have hys := hs y hym
      refine jw_W_n 1 (i' := 49) (ls' := [some (.inr (.inr 103)), some (.inl b), some (.inr (.inl u)), none, some (.inl ((L.length : Int))), some (.inl k), some (.inl j)]) (st' := [.inr (.inr 103)]) rfl ?_
      refine jw_W_gf rfl rfl rfl ?_
      show jw_W (js_S n) _ md_240 50 [some (.inr (.inr 103)), some (.inl b), some (.inr (.inl u)), none, some (.inl ((L.length : Int))), some (.inl k), some (.inl j)] [.inr (.inr 129)] σ _
      refine jw_W_n 1 (i' := 51) (ls' := [some (.inr (.inr 103)), some (.inl b), some (.inr (.inl u)), none, some (.inl ((L.length : Int))), some (.inl k), some (.inl j)]) (st' := [.inl k, .inr (.inr 129)]) rfl ?_
      refine jw_W_la rfl rfl (by omega) (by omega) (by omega) ?_
      show jw_W (js_S n) _ md_240 52 [some (.inr (.inr 103)), some (.inl b), some (.inr (.inl u)), none, some (.inl ((L.length : Int))), some (.inl k), some (.inl j)] [.inr (.inl (σ 129 k))] σ _
      rw [hsx]
      refine jw_W_n 1 (i' := 53) (ls' := [some (.inr (.inr 103)), some (.inl b), some (.inr (.inl u)), none, some (.inl ((L.length : Int))), some (.inl k), some (.inl j)]) (st' := [.inr (.inl 0), .inr (.inl ((ge_s h x.1)))]) rfl ?_
      refine jw_W_lc rfl rfl (by unfold jw_rgl; omega) (by unfold jw_rgl; omega) (fun hc2 => ?_) (fun hc2 => ?_)
      · have hc2 : ((ge_s h x.1)) ≥ 0 := hc2
        first
          | (have hjl : j.toNat = L.length := by omega
             rw [hjl, List.take_length] at hI
             exact kk σ j hI)
          | (exfalso; omega)
      · have hc2 : ¬ (((ge_s h x.1)) ≥ 0) := hc2
        refine jw_W_n 1 (i' := 56) (ls' := [some (.inr (.inr 103)), some (.inl b), some (.inr (.inl u)), none, some (.inl ((L.length : Int))), some (.inl k), some (.inl j)]) (st' := [.inr (.inr 103)]) rfl ?_
        refine jw_W_gf rfl rfl rfl ?_
        show jw_W (js_S n) _ md_240 57 [some (.inr (.inr 103)), some (.inl b), some (.inr (.inl u)), none, some (.inl ((L.length : Int))), some (.inl k), some (.inl j)] [.inr (.inr 129)] σ _
        refine jw_W_n 1 (i' := 58) (ls' := [some (.inr (.inr 103)), some (.inl b), some (.inr (.inl u)), none, some (.inl ((L.length : Int))), some (.inl k), some (.inl j)]) (st' := [.inl j, .inr (.inr 129)]) rfl ?_
        refine jw_W_la rfl rfl (by omega) (by omega) (by omega) ?_
        show jw_W (js_S n) _ md_240 59 [some (.inr (.inr 103)), some (.inl b), some (.inr (.inl u)), none, some (.inl ((L.length : Int))), some (.inl k), some (.inl j)] [.inr (.inl (σ 129 j))] σ _
        rw [hsy]
        refine jw_W_n 1 (i' := 60) (ls' := [some (.inr (.inr 103)), some (.inl b), some (.inr (.inl u)), none, some (.inl ((L.length : Int))), some (.inl k), some (.inl j)]) (st' := [.inr (.inl 0), .inr (.inl ((ge_s h y.1)))]) rfl ?_
        refine jw_W_lc rfl rfl (by unfold jw_rgl; omega) (by unfold jw_rgl; omega) (fun hc3 => ?_) (fun hc3 => ?_)
        · have hc3 : ((ge_s h y.1)) ≤ 0 := hc3
          refine jw_W_n 2 (i' := 45) (ls' := [some (.inr (.inr 103)), some (.inl b), some (.inr (.inl u)), none, some (.inl ((L.length : Int))), some (.inl k), some (.inl (j + 1))]) (st' := []) rfl ?_
          exact ih (by omega) (by rw [jm_inn_s j0 hy, if_neg (fun w => absurd w.1 (by omega)), List.append_nil]; exact hI)
        · have hc3 : ¬ (((ge_s h y.1)) ≤ 0) := hc3
          have syp : 0 < ge_s h y.1 := by omega
          have hA64 : jm_ed σ0 x y = true → (L ++ (ge_new h (jm_ed σ0) (jm_nt b) (L.take k.toNat) L ++ jm_inn h (jm_ed σ0) (jm_nt b) x (L.take j.toNat))).length < 64 := by
            intro hd
            have := jm_new_len (nt := jm_nt b) k0 hx sx j0 hy syp hd
            simp only [List.length_append]
            omega
          refine jw_W_n 4 (i' := 66) (ls' := [some (.inr (.inr 103)), some (.inl b), some (.inr (.inl u)), none, some (.inl ((L.length : Int))), some (.inl k), some (.inl j)]) (st' := [.inl b, .inl j, .inl k, .inr (.inr 103)]) rfl ?_
          refine jw_W_call (as := [.inr (.inr 103), .inl k, .inl j, .inl b]) (rest := []) rfl rfl rfl rfl (Nat.le_of_ble_eq_true rfl) (.inr rfl) (jm_gt_c2 hI hN q1 q2 hA64 k0 j0 (by omega) (by omega) hxA hyA b0 b1 (ht x hxm) (ht y hym) sx (hs x hxm).1 syp (hs y hym).2 (hb x hxm) (hb y hym) hS) (by omega) ?_ rfl
          rintro r1 σ1 (⟨rfl, hI1, hd⟩ | ⟨rfl, hI1, hd⟩)
          · show jw_W (js_S n) _ md_240 67 [some (.inr (.inr 103)), some (.inl b), some (.inr (.inl u)), none, some (.inl ((L.length : Int))), some (.inl k), some (.inl j)] [] σ1 _
            refine jw_W_n 2 (i' := 45) (ls' := [some (.inr (.inr 103)), some (.inl b), some (.inr (.inl u)), none, some (.inl ((L.length : Int))), some (.inl k), some (.inl (j + 1))]) (st' := []) rfl ?_
            first
              | exact ih (by omega) (by rw [jm_inn_s j0 hy, if_pos ⟨syp, hd⟩, ← List.append_assoc, ← List.append_assoc, List.append_assoc L]; exact hI1)
              | exact ih (by omega) (by rw [jm_inn_s j0 hy, if_neg (fun w => hd w.2), List.append_nil]; exact hI1)
          · show jw_W (js_S n) _ md_240 67 [some (.inr (.inr 103)), some (.inl b), some (.inr (.inl u)), none, some (.inl ((L.length : Int))), some (.inl k), some (.inl j)] [] σ1 _
            refine jw_W_n 2 (i' := 45) (ls' := [some (.inr (.inr 103)), some (.inl b), some (.inr (.inl u)), none, some (.inl ((L.length : Int))), some (.inl k), some (.inl (j + 1))]) (st' := []) rfl ?_
            first
              | exact ih (by omega) (by rw [jm_inn_s j0 hy, if_pos ⟨syp, hd⟩, ← List.append_assoc, ← List.append_assoc, List.append_assoc L]; exact hI1)
              | exact ih (by omega) (by rw [jm_inn_s j0 hy, if_neg (fun w => hd w.2), List.append_nil]; exact hI1)
