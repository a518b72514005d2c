/-! ===== new int[n][k], and a copy from row to row ===== -/
section XMA
variable {p : Program} {l : Launch} {e : Env} {R : Room} {s : State} {m : MethodId} {args : Array Value} {below : List Frame} {meth : Method} {c : Code} {H : Heap} {locs : List Loc} {cells slots : Nat} {Q : State → Prop}
variable {cc : ByteArray} {D : va_G} {cl : List vw_C} {ad : Nat → Nat} {z : Nat} {ft : List (List FieldType)} {Ts : List Jvm.Cond} {Rs : xRs} {own : String} {h h' : xH} {st st' : List Value} {a pc : Nat} {tg : List Nat} {L : Array Slot} {H0 : Heap}
theorem xouter (c : ClassId) (N h0 : Nat) : ∀ i : Nat, i ≤ N → (Jvm.Free.Multi.outerC c N h0 i).slots = ((List.range i).map (fun j => Value.ref (h0 + 1 + j)) ++ List.replicate (N - i) Value.null).toArray
  | 0, _ => by
    show Array.replicate N Value.null = _
    simp
  | i + 1, hi => by
    show ((Jvm.Free.Multi.outerC c N h0 i).slots).setIfInBounds i (.ref (h0 + 1 + i)) = _
    rw [xouter c N h0 i (by omega)]
    have e : N - i = (N - (i + 1)) + 1 := by omega
    rw [e, List.replicate_succ, List.range_succ, List.map_append]
    simp only [List.setIfInBounds_toArray, List.map_cons, List.map_nil]
    rw [List.set_append_right _ _ (by simp)]
    simp
theorem xW.rep {n : Nat} {c' : xC} : ∀ (i : Nat) {h : xH} {H H' : Heap}, xW D cl ad z s h H → h.length + i ≤ 1048576 → H'.size = H.size + i → (∀ q, q < H.size → H'[q]? = H[q]?) → (∀ j, j < i → xAt D cl ad s H' (H.size + j) c') → xW D cl ad z s (h ++ List.replicate i c') H'
  | 0, h, H, H', hw, hl, hz, hq, hc => by
    obtain ⟨h1, h2, h3, ⟨h4, h4a, h4b⟩, h5, h6⟩ := hw
    rw [List.replicate_zero, List.append_nil]
    exact ⟨h1, h2, h3, ⟨h4, h4a.kept (fun a g _ => hq a g), h4b.kept (fun a g _ => hq a g)⟩, by omega, fun k c hk => (h6 k c hk).kept (hq _ (h6 k c hk).lt)⟩
  | i + 1, h, H, H', hw, hl, hz, hq, hc => by
    obtain ⟨h1, h2, h3, ⟨h4, h4a, h4b⟩, h5, h6⟩ := hw
    refine ⟨h1, h2, by simp; omega, ⟨by simp; omega, h4a.kept (fun a g _ => hq a g), h4b.kept (fun a g _ => hq a g)⟩, by simp; omega, fun k c hk => ?_⟩
    by_cases e : k < h.length
    · rw [List.getElem?_append_left e] at hk
      exact (h6 k c hk).kept (hq _ (h6 k c hk).lt)
    · rw [List.getElem?_append_right (by omega)] at hk
      have hk0 : k - h.length < i + 1 := by have := (List.getElem?_eq_some_iff.mp hk).1; simpa using this
      rw [List.getElem?_replicate, if_pos hk0] at hk
      cases hk
      have ha : ad k = H.size + (k - h.length) := by rw [h2 k (by omega) (by omega)]; omega
      rw [ha]
      exact hc _ hk0
theorem xlt3 {a i n k : Nat} (h : a + n < k) (hi : i < n) : a + 1 + i < k := by omega
theorem xsz_rep (c' : xC) : ∀ n, xsz (List.replicate n c') = n * xcz c'
  | 0 => (Nat.zero_mul _).symm
  | n + 1 => by
    rw [List.replicate_succ]
    show xcz c' + xsz (List.replicate n c') = _
    rw [xsz_rep c' n, Nat.succ_mul, Nat.add_comm]
theorem xma_sound {ini : Bool} {ix d : Nat} (hx : p.tables.exec = Jvm.exec) (hb : c.code = cc) (hts : ∀ w ∈ Ts, w.before args s = true) (hown : s.vm.findClass own = some m.cls) (hAO : xAO s) (hw : xW D cl ad z s h H) (hS0 : va_S (fun q => z ≤ q) H0 H locs) (hsite : xSite Ts Rs cl own ini a tg (.multianewarray ix d)) (hd : decode cc pc = .ok (.multianewarray ix d, 4)) (hr : xma st h = some (st', h')) (hR1 : cells + (h'.length - h.length) ≤ R.cells) (hR2 : slots + (xsz h' - xsz h) ≤ R.slots)
    (kk : ∀ (H' : Heap) (locs' : List Loc), xW D cl ad z s h' H' → va_S (fun q => z ≤ q) H0 H' locs' → W p l e R s m args below meth c H' locs' (cells + (h'.length - h.length)) (slots + (xsz h' - xsz h)) Q (F0 m (pc + 4) L (st'.map (xsh ad)))) : W p l e R s m args below meth c H locs cells slots Q (F0 m pc L (st.map (xsh ad))) := by
  unfold xma at hr
  split at hr
  · rename_i k n r
    split at hr
    · rename_i hcs
      obtain ⟨hn, hk, hn1, hk1, hl⟩ := hcs
      simp only [Option.some.injEq, Prod.mk.injEq] at hr
      obtain ⟨rfl, rfl⟩ := hr
      obtain ⟨rfl, hs1, hs3⟩ := hsite
      generalize hN : n.toNatClampNeg = N at *
      generalize hM : k.toNatClampNeg = M at *
      have e1 : (h ++ (Sum.inr (Sum.inr (Sum.inr ((List.range N).map (fun i => h.length + 1 + i)))) :: List.replicate N (Sum.inr (Sum.inl (0, List.replicate M 0)))) : xH).length - h.length = 1 + N := by simp; omega
      have e2 : xsz (h ++ (Sum.inr (Sum.inr (Sum.inr ((List.range N).map (fun i => h.length + 1 + i)))) :: List.replicate N (Sum.inr (Sum.inl (0, List.replicate M 0)))) : xH) - xsz h = N + N * M := by
        rw [xsz_app]
        show xsz h + (((List.range N).map (fun i => h.length + 1 + i)).length + xsz (List.replicate N _)) - xsz h = _
        rw [xsz_rep]
        show _ + (_ + N * (List.replicate M 0).length) - _ = _
        simp
      rw [e1] at hR1 kk
      rw [e2] at hR2 kk
      intro T hT X
      obtain ⟨vm₁, cA, comp, -, fA, fC, hO, hI, X', step⟩ := X.multianewarray2F (ty := .int) hx hown (hts _ hs1) hAO.use (hts _ hs3) (g := F0 m pc L ((Value.int k :: Value.int n :: r).map (xsh ad))) rfl (by rw [hb]; exact hd) rfl hn hk (by rw [hN]; exact Nat.le_trans (Nat.mul_le_mul hn1 (Nat.le_refl 4)) (by decide)) (by rw [hM]; exact Nat.le_trans (Nat.mul_le_mul hk1 (Nat.le_refl _)) (by decide)) (by rw [hM]; omega) rfl rfl (by rw [hN]; exact hR1) (by rw [hN, hM]; exact hR2)
      rw [hN, hM] at X' step
      generalize hF : Jvm.Free.Multi.fill (T.setVm vm₁) cA comp N M (defaultValue .int) N = F at X' step
      have hTh : (T.setVm vm₁).heap = H := hT
      obtain ⟨f1, f2, -, -⟩ := Jvm.Free.Multi.fill_facts (T.setVm vm₁) cA comp N M (defaultValue .int) N
      rw [hF, hTh] at f1 f2
      have hold : ∀ x : Nat, x < H.size → F.heap[x]? = H[x]? := fun x hx => by
        have := Jvm.Free.Multi.fill_old (T.setVm vm₁) cA comp N M (defaultValue .int) (a := x) (by rw [hTh]; exact hx) N
        rw [hF, hTh] at this
        exact this
      have hrow : ∀ j : Nat, j < N → F.heap[H.size + 1 + j]? = some (Jvm.Free.Multi.innerC comp M (defaultValue .int)) := fun j hj => by
        have := Jvm.Free.Multi.fill_inner (T.setVm vm₁) cA comp N M (defaultValue .int) N j hj
        rw [hF, hTh] at this
        exact this
      obtain ⟨w1, w2, w3, ⟨w4, -⟩, w5, w6⟩ := id hw
      have had : ∀ i, h.length ≤ i → i < 1048576 → ad i = H.size + (i - h.length) := fun i h1 h2 => by rw [w2 i (by omega) h2]; omega
      -- the outer row, then the inner ones
      have hw1 : ∃ H1 : Heap, H1.size = H.size + 1 ∧ (∀ q, q < H.size + 1 → F.heap[q]? = H1[q]?) ∧ xW D cl ad z s (h ++ [Sum.inr (Sum.inr (Sum.inr ((List.range N).map (fun i => h.length + 1 + i))))]) H1 := by
        refine ⟨H.push (Jvm.Free.Multi.outerC cA N H.size N), by simp, fun q hq => ?_, ?_⟩
        · by_cases hq2 : q < H.size
          · rw [hold q hq2, Array.getElem?_push, if_neg (by omega)]
          · have : q = H.size := by omega
            subst this
            rw [f2]
            simp
        · refine (hw.push (by omega) ?_ (by simp) (fun q hq => by rw [Array.getElem?_push, if_neg (by omega)])).1
          refine ⟨Jvm.Free.Multi.outerC cA N H.size N, by simp, (hO _ _ _).1, (hO _ _ _).2, ?_⟩
          rw [xouter cA N H.size N (Nat.le_refl _)]
          congr 1
          rw [Nat.sub_self, List.replicate_zero, List.append_nil, List.map_map]
          apply List.map_congr_left
          intro i hi
          show Value.ref _ = Value.ref (ad (h.length + 1 + i))
          have hb2 : h.length + 1 + i < 1048576 := xlt3 hl (List.mem_range.mp hi)
          rw [had (h.length + 1 + i) (by omega) hb2]
          have e3 : h.length + 1 + i - h.length = 1 + i := by omega
          rw [e3, ← Nat.add_assoc]
      obtain ⟨H1, hz1, hq1, hw1⟩ := hw1
      have hw2 := xW.rep (n := 0) (c' := Sum.inr (Sum.inl (0, List.replicate M 0))) N (H' := F.heap) hw1 (by simp; omega) (by rw [f1, hz1]) (fun q hq => hq1 q (by omega)) (fun j hj => ⟨_, by rw [hz1]; exact hrow j hj, (hI _ _).1, (hI _ _).2, by
        show Array.replicate M _ = _
        rw [List.map_replicate]
        simp
        exact Or.inr rfl⟩)
      rw [List.append_assoc] at hw2
      obtain ⟨t, a1, b1⟩ := kk F.heap locs hw2 (xS.new hS0 (by omega) hold) F rfl (by rw [← Nat.add_assoc, ← Nat.add_assoc]; exact X')
      refine ⟨t, step t ?_, b1⟩
      have ez : T.heap.size = H.size := by rw [hT]
      have eh : ad h.length = H.size := by rw [had _ (Nat.le_refl _) (by omega)]; omega
      rw [ez, ← eh]
      exact a1
    · cases hr
  · cases hr
end XMA
