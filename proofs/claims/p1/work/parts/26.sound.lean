/-! ===== THE ENGINE IS SOUND: what it tells of a method is a contract of that method ===== -/
section XSOUND
variable {p : Program} {l : Launch} {e : Env} {R : Room} {s : State} {m : MethodId} {args : Array Value} {below : List Frame} {meth : Method} {c : Code} {H : Heap} {locs : List Loc} {cells slots : Nat} {Q : State → Prop}
variable {cc : ByteArray} {D : va_G} {cl : List vw_C} {ad : Nat → Nat} {z : Nat} {ft : List (List FieldType)} {P : List xM} {Ts : List Jvm.Cond} {own : String} {h h' : xH} {st st' : List Value} {a pc : Nat} {tg : List Nat} {L : Array Slot} {H0 : Heap}
theorem xbts_sound {ix : Nat} (hx : p.tables.exec = Jvm.exec) (hb : c.code = cc) (hml : c.maxLocals = L.size) (hts : ∀ w ∈ Ts, w.before args s = true) (hown : s.vm.findClass own = some m.cls) (hw : xW D cl ad z s h H) (hS0 : va_S (fun q => z ≤ q) H0 H locs) (hsite : xBt Ts own ix a) (hd : decode cc pc = .ok (.invokestatic ix, 3)) (hR : 1 ≤ R.frames ∧ 60 ≤ R.locals) (hc : cells ≤ R.cells) (hs : slots ≤ R.slots) (hr : xbt a st h = some (st', h'))
    (kk : ∀ (H' : Heap) (locs' : List Loc), xW D cl ad z s h' H' → va_S (fun q => z ≤ q) H0 H' locs' → W p l e R s m args below meth c H' locs' cells slots Q (F0 m (pc + 3) L (st'.map (xsh ad)))) : h'.length = h.length ∧ xsz h' = xsz h ∧ W p l e R s m args below meth c H locs cells slots Q (F0 m pc L (st.map (xsh ad))) := by
  have h13 : ∀ r : List Value, xcw r ≤ 8 → ((r.map (xsh ad)).map fun v => v.category).sum + 13 ≤ R.locals := fun r h8 => by rw [xcw_sh]; have := hR.2; omega
  unfold xbt at hr
  split at hr
  · exact hsite.elim
  · split at hr
    · rename_i n dp d sp o r
      split at hr
      · rename_i xs ys ho hdo
        split at hr
        · rename_i hcs
          obtain ⟨g1, g2, g3, g4, g5, g6, g7⟩ := hcs
          simp only [Option.some.injEq, Prod.mk.injEq] at hr
          obtain ⟨rfl, rfl⟩ := hr
          refine ⟨by rw [List.length_set], xsz_set _ _ _ _ hdo (by simp [xcz, xcp_len g6 g7]), ?_⟩
          exact xcopy_sound hx hb hml hts hown hw hS0 hsite hd hR ho hdo g1 g2 g3 g4 g5 g6 g7 kk
        · cases hr
      · cases hr
    · cases hr
  · split at hr
    · rename_i x r
      split at hr
      · rename_i g1
        simp only [Option.some.injEq, Prod.mk.injEq] at hr
        obtain ⟨rfl, rfl⟩ := hr
        exact ⟨rfl, rfl, va_mabs hx hb hml hown (hts _ hsite.1) (hts _ hsite.2.1) (hts _ hsite.2.2.1) (hts _ hsite.2.2.2) hR.1 (h13 _ g1) hc hs hd (kk _ _ hw hS0)⟩
      · cases hr
    · cases hr
  · split at hr
    · rename_i x r
      split at hr
      · rename_i g1
        simp only [Option.some.injEq, Prod.mk.injEq] at hr
        obtain ⟨rfl, rfl⟩ := hr
        exact ⟨rfl, rfl, va_mabs_long hx hb hml hown (hts _ hsite.1) (hts _ hsite.2.1) (hts _ hsite.2.2.1) (hts _ hsite.2.2.2) hR.1 (h13 _ g1) hc hs hd (kk _ _ hw hS0)⟩
      · cases hr
    · cases hr
  · split at hr
    · rename_i y x r
      split at hr
      · rename_i g1
        simp only [Option.some.injEq, Prod.mk.injEq] at hr
        obtain ⟨rfl, rfl⟩ := hr
        exact ⟨rfl, rfl, va_mmax hx hb hml hown (hts _ hsite.1) (hts _ hsite.2.1) (hts _ hsite.2.2.1) (hts _ hsite.2.2.2) hR.1 (h13 _ g1) hc hs hd (kk _ _ hw hS0)⟩
      · cases hr
    · cases hr
  · split at hr
    · rename_i y x r
      split at hr
      · rename_i g1
        simp only [Option.some.injEq, Prod.mk.injEq] at hr
        obtain ⟨rfl, rfl⟩ := hr
        exact ⟨rfl, rfl, va_mmin hx hb hml hown (hts _ hsite.1) (hts _ hsite.2.1) (hts _ hsite.2.2.1) (hts _ hsite.2.2.2) hR.1 (h13 _ g1) hc hs hd (kk _ _ hw hS0)⟩
      · cases hr
    · cases hr
  · cases hr
theorem xcall {st0 rest : List Value} {av : Array Value} {r : Option Value} {mc ms : Nat} {free : Addr → Prop} (hr : va_Run p l e R s m args below meth c H locs cells slots mc ms (F0 m pc L st0) rest (xQc D cl ad z r h' av) free) (hS : va_S (fun q => z ≤ q) H0 H locs) (hf : ∀ q, free q → z ≤ q)
    (kk : ∀ (H1 : Heap) (locs1 : List Loc), xW D cl ad z s h' H1 → va_S (fun q => z ≤ q) H0 H1 locs1 → W p l e R s m args below meth c H1 locs1 (cells + mc) (slots + ms) Q (F0 m (pc + 3) L ((r.map (xsh ad)).toList ++ rest))) : W p l e R s m args below meth c H locs cells slots Q (F0 m pc L st0) := by
  intro T hT X
  obtain ⟨v, st₀, t, T', L', h0, X', hL, e1, e2, ⟨hv, hw, hz, hk⟩, step⟩ := hr T hT X
  cases hv
  rw [h0] at hz hk
  have hw' : xW D cl ad z s h' T'.heap := by
    rw [e1]
    exact hw.moved (by rw [← e2]; exact X'.warmed.alike.symm)
  obtain ⟨t2, a1, b1⟩ := kk T'.heap (locs ++ L') hw' ⟨Nat.le_trans hS.1 (by rw [e1]; exact hz), fun q h1 h2 => by rw [e1, hk q (Nat.lt_of_lt_of_le h1 hS.1) h2]; exact hS.2.1 q h1 h2, fun q hq => by
      rcases List.mem_append.mp hq with h | h
      · exact hS.2.2 q h
      · exact hf _ (hL q h)⟩ T' rfl X'
  exact ⟨t2, step t2 a1, b1⟩
/-- a callee's words are among the caller's -/
theorem xgood (hg : ∀ w ∈ Ts, goodWord w = true) {w : Jvm.Cond} (hw : w ∈ Ts) : GoodIn Ts (w :: Ts) := by
  intro v hv
  rcases List.mem_cons.mp hv with rfl | hv
  · exact ⟨hw, good_of_word (hg _ hw)⟩
  · exact ⟨hv, good_of_word (hg _ hv)⟩
theorem xrev {α : Type} (n : Nat) (st : List α) : st = (st.take n).reverse.reverse ++ st.drop n := by
  rw [List.reverse_reverse, List.take_append_drop]
end XSOUND
set_option maxHeartbeats 4000000 in
theorem xcalls_sound {p : Program} {l : Launch} {e : Env} {R : Room} {s : State} {m : MethodId} {args : Array Value} {below : List Frame} {meth : Method} {c : Code} {H : Heap} {locs : List Loc} {cells slots : Nat} {Q : State → Prop}
    {cc : ByteArray} {D : va_G} {cl : List vw_C} {ad : Nat → Nat} {z : Nat} {P : List xM} {Ts : List Jvm.Cond} {Rs : xRs} {Ns : xNs} {own : String} {h h' : xH} {st as rest : List Value} {a pc d nL : Nat} {ins : Instr} {L : Array Slot} {H0 : Heap} {r : Option Value} {M : xM}
    (hx : p.tables.exec = Jvm.exec) (hb : c.code = cc) (hml : c.maxLocals = nL) (hLs : L.size = nL) (hg : ∀ w ∈ Ts, goodWord w = true) (hts : ∀ w ∈ Ts, w.before args s = true) (hown : s.vm.findClass own = some m.cls) (hK : va_K D cl [] s) (hN : xN Ns s) (hRs : xK Rs ad s) (hw : xW D cl ad z s h H) (hS0 : va_S (fun q => z ≤ q) H0 H locs)
    (hnone : cl[1000]? = none) (hM : P[a]? = some M) (hMok : xMOk Ts cl M) (hsite : xCSite Ts Ns P own a [] ins) (hins : xisc ins = true) (hd : decode cc pc = .ok (ins, 3)) (hR : d + 1 ≤ R.frames ∧ 64 * (d + 1) ≤ R.locals) (hca : xca P a st h = some (as, rest)) (hmet : xMet Ts Rs Ns cl l d M as h r h') (hc : cells + (h'.length - h.length) ≤ R.cells) (hs : slots + (xsz h' - xsz h) ≤ R.slots)
    (kk : ∀ (H' : Heap) (locs' : List Loc), xW D cl ad z s h' H' → va_S (fun q => z ≤ q) H0 H' locs' → W p l e R s m args below meth c H' locs' (cells + (h'.length - h.length)) (slots + (xsz h' - xsz h)) Q (F0 m (pc + 3) L ((r.toList ++ rest).map (xsh ad)))) : W p l e R s m args below meth c H locs cells slots Q (F0 m pc L (st.map (xsh ad))) := by
  obtain ⟨-, -, hmet⟩ := hmet
  have hm := hmet D ad z
  obtain ⟨k1, k2, k3, k4, k5, k6, k7, k8, k9⟩ := hMok
  have ek : (r.toList ++ rest).map (xsh ad) = (r.map (xsh ad)).toList ++ rest.map (xsh ad) := by
    rw [List.map_append]
    cases r <;> rfl
  rw [ek] at kk
  unfold xca at hca
  rw [hM] at hca
  simp only at hca
  generalize hn : (if M.kind = 0 then M.np else M.np + 1) = n at hca
  split at hca
  · rename_i hcs
    obtain ⟨g1, g2, g3⟩ := hcs
    simp only [Option.some.injEq, Prod.mk.injEq] at hca
    obtain ⟨ea, er⟩ := hca
    have est : st = as.reverse ++ rest := by rw [← ea, ← er]; exact xrev n st
    have hal : as.length = n := by rw [← ea, List.length_reverse, List.length_take]; omega
    rw [er] at g2
    have S : CallFix p m c cc nL s args Ts own := ⟨hx, hb, hml, hown, hts⟩
    have hroom : (xrm d (h'.length - h.length) (xsz h' - xsz h)).frames + 1 ≤ R.frames ∧ 8 + (M.maxL + 11) + (xrm d (h'.length - h.length) (xsz h' - xsz h)).locals ≤ R.locals := ⟨hR.1, by
      show 8 + (M.maxL + 11) + 64 * d ≤ R.locals
      have := hR.2
      omega⟩
    have hcb : ∀ ix, Jvm.Cond.methodLink own ix M.y ∈ Ts → CallB R s args own ix M.y M.bytes M.maxL M.ret (Jvm.Cond.code M.y M.bytes M.maxL M.ret :: Ts) (xrm d (h'.length - h.length) (xsz h' - xsz h)) (h'.length - h.length) (xsz h' - xsz h) M.np := fun ix hl => callB_of M.np hts (xgood hg k2) rfl rfl rfl (hts _ k3) (hts _ hl) k4 hroom
    have hPre : ∀ U : State, U.heap = H → s.WarmedH U.vm → xPc Rs Ns D cl ad z as h (as.map (xsh ad)).toArray U := fun U hU hW => ⟨rfl, by rw [hU]; exact hw.moved hW.alike, va_K.moved hW.alike hK, ⟨fun x hx => va_Nw.warmM hW (hN.1 x hx), hN.2.moved hW.alike⟩, fun x hx => vk_R.warm hW (hRs x hx)⟩
    have hW8 : 2 * (F0 m pc L (st.map (xsh ad))).monitorRoom + ((rest.map (xsh ad)).map fun v => v.category).sum ≤ 8 := lv_room (by rw [xcw_sh]; exact g2)
    have hrecv : ¬ M.kind = 0 → ∃ o as', as = .ref o :: as' ∧ ∃ cellB : Cell, H[ad o]? = some cellB ∧ cellB.vm.isStatics = false ∧ s.vm.findClass M.y.cls = some cellB.cls := by
      intro hk
      have g3 : xrc M.ci as h = true := by
        rcases g3 with g | g
        · exact absurd g hk
        · rw [ea] at g
          exact g
      unfold xrc at g3
      split at g3
      · rename_i o as'
        refine ⟨o, as', rfl, ?_⟩
        split at g3
        · rename_i ci vs ho
          have hci : ci = M.ci := by simpa using g3
          subst hci
          rcases hw.2.2.2.2.2 o _ ho with ⟨r0, h1, -, cell, q1, q2, q3, -⟩ | ⟨h1, v0, v1, -, ⟨cell, e1, e2, e3, -⟩, -⟩
          · rcases (k7 hk).2 with ⟨r1, h2, h3⟩ | ⟨h2, -⟩
            · cases h1.symm.trans h2
              exact ⟨cell, q1, by rw [q3]; rfl, by rw [← h3, q2]; exact (hK.1 _ _ h1).2.1⟩
            · have h1 : cl[M.ci]? = some r0 := h1
              rw [h2, hnone] at h1
              cases h1
          · rcases (k7 hk).2 with ⟨r1, h2, h3⟩ | ⟨-, h3⟩
            · have h1 : M.ci = 1000 := h1
              rw [h1, hnone] at h2
              cases h2
            · exact ⟨cell, e1, e2, by rw [h3]; exact e3⟩
        · cases g3
      · cases g3
    cases ins <;> try cases hins
    case isTrue.invokevirtual.refl ix =>
      obtain ⟨-, M', hM', hk, hl⟩ := hsite.resolve_right (fun q => q.1 rfl)
      cases hM.symm.trans hM'
      have hk0 : ¬ M.kind = 0 := by omega
      obtain ⟨o, as', rfl, hcell⟩ := hrecv hk0
      have hn1 : n = M.np + 1 := by rw [← hn, if_neg hk0]
      refine xcall (va_runV (As := as'.map (xsh ad)) (rest := rest.map (xsh ad)) S hm ⟨hcb ix hl, hts _ (k7 hk0).1, hts _ (k8 hk)⟩ ⟨xPc_blind _ _ _ _ _ _ _ _, hcell, hPre⟩ rfl (by rw [List.length_map]; simp at hal; omega) hLs (by rw [est]; simp [xsh]) hW8 hd ⟨hc, hs⟩) hS0 (fun q h => h) kk
    case isTrue.invokestatic.refl ix =>
      rcases hsite with ⟨-, M', hM', hk, hl⟩ | ⟨hf, -⟩
      · cases hM.symm.trans hM'
        have hn1 : n = M.np := by rw [← hn, if_pos hk]
        refine xcall (va_runS (As := as.map (xsh ad)) (rest := rest.map (xsh ad)) S hm ⟨hcb ix hl, hts _ (k6 hk)⟩ ⟨xPc_blind _ _ _ _ _ _ _ _, hPre⟩ rfl (by rw [List.length_map]; omega) hLs (by rw [est]; simp) hW8 hd ⟨hc, hs⟩) hS0 (fun q h => h) kk
      · exact absurd rfl hf
    case isTrue.invokespecial.refl ix =>
      rcases hsite with ⟨-, M', hM', hk, hl⟩ | ⟨hf, -⟩
      · cases hM.symm.trans hM'
        have hk0 : ¬ M.kind = 0 := by omega
        obtain ⟨o, as', rfl, hcell⟩ := hrecv hk0
        have hn1 : n = M.np + 1 := by rw [← hn, if_neg hk0]
        obtain ⟨hy1, hret⟩ := k9 hk
        rw [hret] at hm
        rcases hl with hl | ⟨host, hl⟩
        rotate_left
        · have hcn : va_CN R s args own ix M.y host M.bytes M.maxL none (Jvm.Cond.code M.y M.bytes M.maxL none :: Ts) (xrm d (h'.length - h.length) (xsz h' - xsz h)) (h'.length - h.length) (xsz h' - xsz h) M.np := va_cnB M.np hts (xgood hg (by rw [hret] at k2; exact k2)) rfl rfl rfl (hN.1 _ hl) (hts _ k3) k4 hroom
          refine xcall (va_runIN (As := as'.map (xsh ad)) (rest := rest.map (xsh ad)) S hm ⟨hcn, hy1, hts _ (k7 hk0).1⟩ ⟨xPc_blind _ _ _ _ _ _ _ _, hPre⟩ rfl (by rw [List.length_map]; simp at hal; omega) hLs (by rw [est]; simp [xsh]) hW8 hd ⟨hc, hs⟩) hS0 (fun q h => h) kk
        have hcb' := hcb ix hl
        rw [hret] at hcb'
        refine xcall (va_runI (As := as'.map (xsh ad)) (rest := rest.map (xsh ad)) S hm ⟨hcb', hy1, hts _ (k7 hk0).1⟩ ⟨xPc_blind _ _ _ _ _ _ _ _, hPre⟩ rfl (by rw [List.length_map]; simp at hal; omega) hLs (by rw [est]; simp [xsh]) hW8 hd ⟨hc, hs⟩) hS0 (fun q h => h) kk
      · exact absurd rfl hf
  · cases hca
