/-! THE RUNS ARE THE MACHINE'S -/
def am_mon (g : CF → Option CF) : Prop := ∀ c c' : CF, g c = some c' → c.2.2.2.2.2.1 ≤ c'.2.2.2.2.2.1 ∧ c.2.2.2.2.2.2 ≤ c'.2.2.2.2.2.2
def am_monF (g : CF → Option RS) : Prop := ∀ (c : CF) (r : RS), g c = some r → c.2.2.2.2.2.1 ≤ r.2.2.2.1 ∧ c.2.2.2.2.2.2 ≤ r.2.2.2.2
/-- what becomes of an exception that comes back from a call -/
def am_hk (own mn : String) (cc : ByteArray) (pc : Nat) (hh : List (Nat × Nat × Nat × Nat)) (E : Nat) : Option (Option (Nat × Nat)) → Prop
  | none => True
  | some none => hh = []
  | some (some (pc', i)) => ∀ (p : Program) (l : Launch) (e : Env) (R : Room) (s : State) (m : MethodId) (args : Array Value) (below : List Frame) (meth : Method) (c : Code) (nL : Nat) (A : Nat → Prop) (D : va_G) (dA : Nat → ClassId) (cad : Lc → Nat) (xl : XL) (Q : State → Prop), am_X p l s m args meth c own mn cc nL A D dA cad xl → c.exceptionTable.toList = tableOf hh →
    ∀ (ls : AS) (h : AH) (n0 tn : Nat) (ad0 ad : Lc → Nat) (H : Heap) (locs : List Loc) (ls' : Array Slot) (k n : Nat) (rest : List Value) (q : Addr) (ce : Cell), i < ls.length → am_I D dA cad xl A s.heap nL n0 ad0 ad tn ls [] h H locs ls' → H[q]? = some ce → ce.vm = .none → s.vm.findClass (am_exn E) = some ce.cls →
    (∀ ls'' : Array Slot, am_I D dA cad xl A s.heap nL n0 ad0 ad tn (am_clr ls i) [] h H locs ls'' → W p l e R s m args below meth c H locs k n Q (F0 m pc' ls'' [])) → vx_W p l e R s m args below meth c H locs k n Q (F0 m pc ls' rest) q
/-- what a method is: its number's name, its word, how many arguments -/
abbrev MI : Type := MethodName × Cond × Nat
def am_opok (own mn : String) (cc : ByteArray) (pc : Nat) (rt : Option FieldType) (hh : List (Nat × Nat × Nat × Nat)) (MY : Nat → Option MI) : OP → Prop
  | .inl g => am_ok own mn cc pc g ∧ am_mon g
  | .inr (.inl g) => am_fin own mn cc pc rt (hh.isEmpty) g ∧ am_monF g
  | .inr (.inr (y, na, rc, hd)) => (∃ q : MI, MY y = some q ∧ q.2.2 = na ∧ am_cal own mn cc pc na rc q.1 q.2.1) ∧ ∀ E, am_hk own mn cc pc hh E (hd E)
def am_csound (l : Launch) (d : Nat) (MY : Nat → Option MI) (call : Nat → List AV → AH → KT → Option RS) : Prop :=
  ∀ (y : Nat) (q : MI) (as : List AV) (h : AH) (t : KT) (r : RS), MY y = some q → call y as h t = some r → am_con l d q.1 q.2.1 as h t r ∧ as.length = q.2.2 ∧ t.2.1 ≤ r.2.2.2.1 ∧ t.2.2 ≤ r.2.2.2.2
theorem am_run_mon {code : Nat → Option OP} {call : Nat → List AV → AH → KT → Option RS} {own mn : String} {cc : ByteArray} {rt : Option FieldType} {hh : List (Nat × Nat × Nat × Nat)} {MY : Nat → Option MI} {l : Launch} {d : Nat} (hc : ∀ pc op, code pc = some op → am_opok own mn cc pc rt hh MY op) (hs : am_csound l d MY call) :
    ∀ (F : Nat) (c : CF) (r : RS), am_run code call F c = some r → c.2.2.2.2.2.1 ≤ r.2.2.2.1 ∧ c.2.2.2.2.2.2 ≤ r.2.2.2.2
  | 0, c, r, h => by simp [am_run] at h
  | F + 1, c, r, h => by
    unfold am_run at h
    split at h
    · cases h
    · rename_i g hg
      split at h
      · cases h
      · rename_i c' hc'
        have h1 := (hc _ _ hg).2 _ _ hc'
        have h2 := am_run_mon hc hs F c' r h
        exact ⟨Nat.le_trans h1.1 h2.1, Nat.le_trans h1.2 h2.2⟩
    · rename_i g hg
      exact (hc _ _ hg).2 _ _ h
    · rename_i y na rc hd hg
      obtain ⟨⟨q, hq, -⟩, -⟩ := hc _ _ hg
      split at h
      · cases h
      · split at h
        · cases h
        · rename_i v h' t' hcall
          have h1 := (hs _ _ _ _ _ _ hq hcall).2.2
          have h2 := am_run_mon hc hs F _ r h
          exact ⟨Nat.le_trans h1.1 h2.1, Nat.le_trans h1.2 h2.2⟩
        · rename_i E h' t' hcall
          have h1 := (hs _ _ _ _ _ _ hq hcall).2.2
          split at h
          · cases h
          · cases h
            exact h1
          · split at h
            · have h2 := am_run_mon hc hs F _ r h
              exact ⟨Nat.le_trans h1.1 h2.1, Nat.le_trans h1.2 h2.2⟩
            · cases h
theorem am_run_ok {code : Nat → Option OP} {call : Nat → List AV → AH → KT → Option RS} {own mn : String} {cc : ByteArray} {rt : Option FieldType} {hh : List (Nat × Nat × Nat × Nat)} {MY : Nat → Option MI} {l : Launch} {d : Nat} (hco : ∀ pc op, code pc = some op → am_opok own mn cc pc rt hh MY op) (hsd : am_csound l d MY call)
    {p : Program} {e : Env} {R : Room} {s : State} {m : MethodId} {args : Array Value} {below : List Frame} {meth : Method} {c : Code} {nL : Nat} {A : Nat → Prop} {D : va_G} {dA : Nat → ClassId} {cad : Lc → Nat} {xl : XL} (X : am_X p l s m args meth c own mn cc nL A D dA cad xl) (hrt : meth.sig.returnType = rt) (htb : c.exceptionTable.toList = tableOf hh) (hRf : 2 * d + 10 ≤ R.frames) (hRl : 60 * d + 260 ≤ R.locals) {n0 c0 s0 mc ms : Nat} {ad0 : Lc → Nat} :
    ∀ (F : Nat) (g : CF) (r : RS), am_run code call F g = some r → ∀ (ad : Lc → Nat) (H : Heap) (locs : List Loc) (ls' : Array Slot) (k n : Nat), am_I D dA cad xl A s.heap nL n0 ad0 ad g.2.2.2.2.1 g.2.1 g.2.2.1 g.2.2.2.1 H locs ls' → k + c0 = g.2.2.2.2.2.1 → n + s0 = g.2.2.2.2.2.2 → r.2.2.2.1 ≤ c0 + R.cells → r.2.2.2.2 ≤ s0 + R.slots → mc + c0 = r.2.2.2.1 → ms + s0 = r.2.2.2.2 →
      W p l e R s m args below meth c H locs k n (vx_MQ below (am_Qc D dA cad xl A n0 ad0 r) (am_XC D dA cad xl A n0 ad0 r) args s mc ms A) (F0 m g.1 ls' (g.2.2.1.map (am_cv ad)))
  | 0, g, r, h => by simp [am_run] at h
  | F + 1, g, r, h => by
    intro ad H locs ls' k n I hk hn hc hs hmc hms
    obtain ⟨pc, ls, st, ah, t⟩ := g
    unfold am_run at h
    split at h
    · cases h
    · rename_i f hf
      split at h
      · cases h
      · rename_i g' hg'
        have hm := am_run_mon hco hsd F g' r h
        exact (hco _ _ hf).1 p l e R s m args below meth c nL A D dA cad xl _ X ls st ah t g' hg' (by omega) (by omega) n0 ad0 ad H locs ls' k n c0 s0 I hk hn (by omega) (by omega) (fun ad' H' locs' ls'' k' n' I' hk' hn' => am_run_ok hco hsd X hrt htb hRf hRl F g' r h ad' H' locs' ls'' k' n' I' hk' hn' hc hs hmc hms)
    · rename_i f hf
      exact (hco _ _ hf).1 p l e R s m args below meth c nL A D dA cad xl X hrt (fun q x hx => by
        have e9 : hh = [] := List.isEmpty_iff.mp q
        subst e9
        rw [htb] at hx
        cases hx) ls st ah t r h (by omega) (by omega) n0 ad0 ad H locs ls' k n c0 s0 I hk hn hc hs mc ms hmc hms
    · rename_i y na rc hd hf
      obtain ⟨⟨q, hq, hna, hcal⟩, hhd⟩ := hco _ _ hf
      split at h
      · cases h
      · rename_i hcond
        simp only [not_or] at hcond
        dsimp only at hcond h hk hn
        have hrs : ∀ v ∈ st.drop na, v ∈ st := fun v hv => List.mem_of_mem_drop hv
        -- the call's own run
        have key : ∀ r1 : RS, call y (st.take na).reverse ah t = some r1 → r1.2.2.2.1 ≤ r.2.2.2.1 → r1.2.2.2.2 ≤ r.2.2.2.2 → ∀ (Q : State → Prop),
            (∀ (v : Option AV) (ad' : Lc → Nat) (H' : Heap) (locs' : List Loc), r1.1 = .inl v → am_I D dA cad xl A s.heap nL n0 ad0 ad' r1.2.2.1 ls (v.toList ++ st.drop na) r1.2.1 H' locs' ls' → W p l e R s m args below meth c H' locs' (k + (r1.2.2.2.1 - t.2.1)) (n + (r1.2.2.2.2 - t.2.2)) Q (F0 m (pc + 3) ls' ((v.toList ++ st.drop na).map (am_cv ad')))) →
            (∀ (E : Nat) (ad' : Lc → Nat) (H' : Heap) (locs' : List Loc) (q : Addr) (ce : Cell), r1.1 = .inr E → am_I D dA cad xl A s.heap nL n0 ad0 ad' r1.2.2.1 ls [] r1.2.1 H' locs' ls' → H'[q]? = some ce → ce.vm = .none → s.vm.findClass (am_exn E) = some ce.cls → vx_W p l e R s m args below meth c H' locs' (k + (r1.2.2.2.1 - t.2.1)) (n + (r1.2.2.2.2 - t.2.2)) Q (F0 m pc ls' ((st.drop na).map (am_cv ad))) q) →
            W p l e R s m args below meth c H locs k n Q (F0 m pc ls' (st.map (am_cv ad))) := by
          intro r1 hcall g1 g2 Q kk kx
          obtain ⟨hcon, hlen, hm1, hm2⟩ := hsd _ _ _ _ _ _ hq hcall
          obtain ⟨a, hrun⟩ := hcal p l e R s m args below meth c nL A D dA cad xl X ls st ah t r1 d hcon (by rw [hlen, hna]) hcond.1 hcond.2 hRf hRl n0 ad0 ad H locs ls' k n (r1.2.2.2.1 - t.2.1) (r1.2.2.2.2 - t.2.2) I (by omega) (by omega) (by omega) (by omega)
          exact am_use (as := (st.take na).reverse) X I hrs hrun kk kx
        split at h
        · cases h
        · rename_i v h' t' hcall
          have hm := am_run_mon hco hsd F _ r h
          dsimp only at hm
          have hm3 := (hsd _ _ _ _ _ _ hq hcall).2.2
          dsimp only at hm3
          refine key _ hcall hm.1 hm.2 _ (fun v2 ad' H' locs' hv I' => ?_) (fun E ad' H' locs' q ce hE => by cases hE)
          cases hv
          exact am_run_ok hco hsd X hrt htb hRf hRl F _ r h ad' H' locs' ls' _ _ I' (by dsimp only; omega) (by dsimp only; omega) hc hs hmc hms
        · rename_i E h' t' hcall
          have hm3 := (hsd _ _ _ _ _ _ hq hcall).2.2
          dsimp only at hm3
          split at h
          · cases h
          · rename_i hE
            cases h
            have hh0 := hhd E
            rw [hE] at hh0
            have e9 : hh = [] := hh0
            refine key _ hcall (Nat.le_refl _) (Nat.le_refl _) _ (fun v2 ad' H' locs' hv => by cases hv) (fun E2 ad' H' locs' q ce hE2 I' hce hcv hcl => ?_)
            cases hE2
            dsimp only at I' hmc hms
            refine vx_out (E := am_exn E) (fun x hx => by rw [htb, e9] at hx; cases hx) X.2.2.2.2.2.1 hce hcv hcl (fun u hu hal => ⟨ad', E, rfl, rfl, am_B_of I' u hu rfl, I'.2.2.1.F hu⟩) I'.2.2.1.2.2 (by dsimp only; omega) (by dsimp only; omega)
          · rename_i pc' i hE
            split at h
            · rename_i hi
              have hm := am_run_mon hco hsd F _ r h
              dsimp only at hm
              have hh0 := hhd E
              rw [hE] at hh0
              refine key _ hcall hm.1 hm.2 _ (fun v2 ad' H' locs' hv => by cases hv) (fun E2 ad' H' locs' q ce hE2 I' hce hcv hcl => ?_)
              cases hE2
              dsimp only at I'
              exact hh0 p l e R s m args below meth c nL A D dA cad xl _ X htb ls h' n0 t'.1 ad0 ad' H' locs' ls' _ _ _ q ce hi I' hce hcv hcl (fun ls'' I2 => am_run_ok hco hsd X hrt htb hRf hRl F _ r h ad' H' locs' ls'' _ _ I2 (by dsimp only; omega) (by dsimp only; omega) hc hs hmc hms)
            · cases h
