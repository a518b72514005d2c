theorem xisc_len {ins : Instr} (h : xisc ins = true) : xlen ins = 3 := by cases ins <;> first | rfl | cases h
theorem xisc_cases {ins : Instr} (h : xisc ins = true) : (∃ ix, ins = .invokevirtual ix) ∨ (∃ ix, ins = .invokestatic ix) ∨ ∃ ix, ins = .invokespecial ix := by
  cases ins <;> first | exact Or.inl ⟨_, rfl⟩ | exact Or.inr (Or.inl ⟨_, rfl⟩) | exact Or.inr (Or.inr ⟨_, rfl⟩) | cases h
set_option maxHeartbeats 4000000 in
theorem xrun_sound {p : Program} {l : Launch} {e : Env} {R : Room} {s : State} {m : MethodId} {args : Array Value} {below : List Frame} {meth : Method} {c : Code} {Q : State → Prop}
    {cc : ByteArray} {D : va_G} {cl : List vw_C} {ad : Nat → Nat} {z : Nat} {ft : List (List FieldType)} {P : List xM} {Ts : List Jvm.Cond} {Rs : xRs} {Ns : xNs} {own : String} {d nL : Nat} {H0 : Heap} {ini : Bool} {cd : List xI} {call : Nat → List Value → xH → xR}
    (hx : p.tables.exec = Jvm.exec) (hb : c.code = cc) (hml : c.maxLocals = nL) (hg : ∀ w ∈ Ts, goodWord w = true) (hts : ∀ w ∈ Ts, w.before args s = true) (hown : s.vm.findClass own = some m.cls) (hK : va_K D cl [] s) (hN : xN Ns s) (hRs : xK Rs ad s) (hcl : xClOk Ts cl ft) (hin2 : ini = true → meth.name = "<init>") (hPM : ∀ (k : Nat) (M : xM), P[k]? = some M → xMOk Ts cl M) (hcd : xCdOk Ts Rs Ns cl P own ini cc cd) (hR : d + 1 ≤ R.frames ∧ 64 * (d + 1) ≤ R.locals)
    (hcall : ∀ (k : Nat) (M : xM) (as : List Value) (h : xH) (r : Option Value) (h' : xH), P[k]? = some M → call k as h = some (r, h') → xMet Ts Rs Ns cl l d M as h r h') :
    ∀ (f i : Nat) (ls : xL) (st : List Value) (h : xH) (r : Option Value) (h' : xH), xrun ft P call cd f i ls st h = some (r, h') → h.length ≤ h'.length ∧ xsz h ≤ xsz h' ∧ ∀ (pc : Nat) (L : Array Slot) (H : Heap) (locs : List Loc) (cells slots : Nat), xpc cd i pc → xLH ad nL ls L → xW D cl ad z s h H → va_S (fun q => z ≤ q) H0 H locs → cells + (h'.length - h.length) ≤ R.cells → slots + (xsz h' - xsz h) ≤ R.slots →
      (∀ (pc' : Nat) (L' : Array Slot) (H' : Heap) (locs' : List Loc) (st' : List Value) (ins' : Instr), decode cc pc' = .ok (ins', 1) → xend st' h' ins' = some (r, h') → xW D cl ad z s h' H' → va_S (fun q => z ≤ q) H0 H' locs' → W p l e R s m args below meth c H' locs' (cells + (h'.length - h.length)) (slots + (xsz h' - xsz h)) Q (F0 m pc' L' (st'.map (xsh ad)))) →
      W p l e R s m args below meth c H locs cells slots Q (F0 m pc L (st.map (xsh ad))) := by
  obtain ⟨c1, c2, c3, c4, c5, c7, c8⟩ := hcd
  intro f
  induction f with
  | zero => intro i ls st h r h' hr; cases hr
  | succ f ih =>
    intro i ls st h r h' hr
    unfold xrun at hr
    split at hr
    · cases hr
    · rename_i q hq
      have hmem := List.mem_of_getElem? hq
      obtain ⟨qpc, ins, n, a, tg⟩ := q
      have hd0 := c3 _ hmem
      have hn0 := c5 _ hmem
      have hbr := c4 _ hmem
      have hsq := xseq_at c2 hq
      have hsi := c7 _ hmem
      have hsc := c8 _ hmem
      simp only at hr hd0 hn0 hsq hsi hsc
      split at hr
      · rename_i nx hps
        obtain ⟨i', ls', st'⟩ := nx
        obtain ⟨a1, a2, k⟩ := ih _ _ _ _ _ _ hr
        try dsimp only at a1 a2 k
        refine ⟨a1, a2, fun pc L H locs cells slots hpc hl hw hS h1 h2 hret => ?_⟩
        have epc : qpc = pc := hpc _ hq
        subst epc
        exact xps_sound hx hb hps hd0 hn0 hsq hbr hl (fun pc' L' hp hl' => k pc' L' H locs cells slots hp hl' hw hS h1 h2 hret)
      · split at hr
        · rename_i nx hhs
          obtain ⟨st1, hh1⟩ := nx
          obtain ⟨a1, a2, k⟩ := ih _ _ _ _ _ _ hr
          try dsimp only at a1 a2 k
          have b1 : h.length ≤ hh1.length ∧ xsz h ≤ xsz hh1 := by
            have := @xhs_len ft h hh1 st st1 a tg ins hhs
            exact this
          refine ⟨Nat.le_trans b1.1 a1, Nat.le_trans b1.2 a2, fun pc L H locs cells slots hpc hl hw hS h1 h2 hret => ?_⟩
          have epc : qpc = pc := hpc _ hq
          subst epc
          obtain ⟨-, -, kk⟩ := xhs_sound (p := p) (l := l) (e := e) (R := R) (m := m) (args := args) (below := below) (meth := meth) (c := c) (locs := locs) (cells := cells) (slots := slots) (Q := Q) (L := L) (H0 := H0) hx hb hts hown hN.2 hK hRs hcl hin2 hw hS hsi hd0 hn0 hhs
          have b11 := b1.1
          have b12 := b1.2
          refine kk (by omega) (by omega) (fun H' locs' hw' hS' => ?_)
          refine k _ L H' locs' _ _ hsq hl hw' hS' (by omega) (by omega) (fun pc' L' H2 locs2 st2 ins2 g1 g2 g3 g4 => ?_)
          refine W.cs ?_ ?_ (hret pc' L' H2 locs2 st2 ins2 g1 g2 g3 g4)
          · omega
          · omega
        · split at hr
          · -- the end
            have e1 : h' = h ∧ n = 1 := by
              unfold xend at hr
              split at hr
              · split at hr <;> cases hr
                exact ⟨rfl, by rcases hn0 with q | q <;> simp [xlen] at q; exact q.symm⟩
              · split at hr <;> cases hr
                exact ⟨rfl, by rcases hn0 with q | q <;> simp [xlen] at q; exact q.symm⟩
              · split at hr <;> cases hr
                exact ⟨rfl, by rcases hn0 with q | q <;> simp [xlen] at q; exact q.symm⟩
              · cases hr
            obtain ⟨rfl, rfl⟩ := e1
            refine ⟨Nat.le_refl _, Nat.le_refl _, fun pc L H locs cells slots hpc hl hw hS h1 h2 hret => ?_⟩
            have epc : qpc = pc := hpc _ hq
            subst epc
            have := hret qpc L H locs st ins hd0 hr hw hS
            rwa [Nat.sub_self, Nat.sub_self] at this
          · rename_i hisc
            have en : n = 3 := by
              have h3 := xisc_len hisc
              rcases hn0 with q | q <;> omega
            subst en
            cases tg with
            | nil =>
              simp only at hr
              split at hr
              · cases hr
              · rename_i ca hca
                obtain ⟨as, rest⟩ := ca
                simp only at hr
                split at hr
                · cases hr
                · rename_i rr hcl1
                  obtain ⟨r1, hh1⟩ := rr
                  obtain ⟨a1, a2, k⟩ := ih _ _ _ _ _ _ hr
                  try dsimp only at a1 a2 k
                  obtain ⟨M, hM⟩ : ∃ M, P[a]? = some M := by
                    unfold xca at hca
                    split at hca
                    · cases hca
                    · rename_i M hM
                      exact ⟨M, hM⟩
                  have hmet := hcall _ _ _ _ _ _ hM hcl1
                  have b11 := hmet.1
                  have b12 := hmet.2.1
                  refine ⟨Nat.le_trans b11 a1, Nat.le_trans b12 a2, fun pc L H locs cells slots hpc hl hw hS h1 h2 hret => ?_⟩
                  have epc : qpc = pc := hpc _ hq
                  subst epc
                  have hLs : L.size = nL := by obtain ⟨-, q1, q2, -⟩ := hl; exact q2.1
                  refine xcalls_sound hx hb hml hLs hg hts hown hK hN hRs hw hS hcl.1 hM (hPM _ _ hM) hsc hisc hd0 hR hca hmet (by omega) (by omega) (fun H' locs' hw' hS' => ?_)
                  refine k _ L H' locs' _ _ hsq hl hw' hS' (by omega) (by omega) (fun pc' L' H2 locs2 st2 ins2 g1 g2 g3 g4 => ?_)
                  refine W.cs ?_ ?_ (hret pc' L' H2 locs2 st2 ins2 g1 g2 g3 g4)
                  · omega
                  · omega
            | cons tb tg =>
              have htg : ¬ tb :: tg = [] := fun q => by cases q
              simp only at hr
              split at hr
              · cases hr
              · rename_i nx hbt
                obtain ⟨st1, hh1⟩ := nx
                obtain ⟨a1, a2, k⟩ := ih _ _ _ _ _ _ hr
                try dsimp only at a1 a2 k
                have b1 : hh1.length = h.length ∧ xsz hh1 = xsz h := xbt_len hbt
                obtain ⟨b11, b12⟩ := b1
                refine ⟨by omega, by omega, fun pc L H locs cells slots hpc hl hw hS h1 h2 hret => ?_⟩
                have epc : qpc = pc := hpc _ hq
                subst epc
                have hLs : L.size = nL := by obtain ⟨-, q1, q2, -⟩ := hl; exact q2.1
                have key : ∀ (H' : Heap) (locs' : List Loc), xW D cl ad z s hh1 H' → va_S (fun q => z ≤ q) H0 H' locs' → W p l e R s m args below meth c H' locs' cells slots Q (F0 m (qpc + 3) L (st1.map (xsh ad))) := fun H' locs' hw' hS' =>
                  k _ L H' locs' _ _ hsq hl hw' hS' (by omega) (by omega) (fun pc' L' H2 locs2 st2 ins2 g1 g2 g3 g4 => W.cs (by omega) (by omega) (hret pc' L' H2 locs2 st2 ins2 g1 g2 g3 g4))
                rcases xisc_cases hisc with ⟨ix, rfl⟩ | ⟨ix, rfl⟩ | ⟨ix, rfl⟩
                · rcases hsc with ⟨hf, -⟩ | ⟨-, h6⟩
                  · exact absurd hf htg
                  · rw [xbt_big h6] at hbt
                    cases hbt
                · rcases hsc with ⟨hf, -⟩ | ⟨-, hsb⟩
                  · exact absurd hf htg
                  · exact (xbts_sound hx hb (by rw [hml, hLs]) hts hown hw hS hsb hd0 ⟨by omega, by omega⟩ (by omega) (by omega) hbt key).2.2
                · rcases hsc with ⟨hf, -⟩ | ⟨-, ha, w1, w2, w3⟩
                  · exact absurd hf htg
                  · subst ha
                    unfold xbt at hbt
                    simp only at hbt
                    split at hbt <;> try cases hbt
                    rename_i o rst
                    split at hbt <;> cases hbt
                    rename_i h8
                    exact W.objInit hx hb hown (hts _ w1) (hts _ w2) (hts _ w3) rfl (by rw [hml]; exact hLs) rfl hd0 (by omega) (by rw [xcw_sh]; show 2 * 0 + _ + 12 ≤ _; omega) (key _ _ hw hS)
