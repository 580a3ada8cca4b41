/-! WHAT IS ANSWERED: words of a row, sums, what would be -/
set_option maxRecDepth 4000
abbrev RZ : Type := Int ⊕ Nat
def chA (A : RA) (r : Nat) : Nat → Nat := wayF (rRu A) (rPr A) (rNu A r) (rLn A r)
abbrev nwA (A : RA) (r : Nat) : Nat := nW (chA A r) (rLn A r)
abbrev wyA (A : RA) (r k : Nat) : Nat := ((chA A r) (stU (chA A r) k))
abbrev stA (A : RA) (r k : Nat) : Nat := stU (chA A r) k
abbrev hbA (A : RA) (r k : Nat) : Nat := hB (chA A r) (rLn A r) k
abbrev isR (A : RA) (x : Int) : Prop := 0 ≤ x ∧ x < rN A
abbrev isN (A : RA) (x i : Int) : Prop := isR A x ∧ 0 ≤ i ∧ i < rLn A x.toNat
abbrev isW (A : RA) (x k : Int) : Prop := isR A x ∧ 0 ≤ k ∧ k < (nW (chA A x.toNat) (rLn A x.toNat))
/-- the class's rows and words are those of A -/
def CW (A : RA) (σ : SG) : Prop := Av A ∧ Rep A σ 0 ∧ ∀ r, r < rN A → PX (chA A r) (rNu A r) (rLn A r) r σ
theorem PX.fr {ch : Nat → Nat} {f : Nat → Int} {n p : Nat} {σ σ' : SG} {P : Lc → Prop} (h : PX ch f n p σ) (k : Fr P σ σ') (hP : ∀ L, inW p L → ¬ P L) : PX ch f n p σ' := by
  have e : ∀ a, 28 ≤ a ∧ a ≤ 30 → σ'.1 (a, p, 0) = σ.1 (a, p, 0) := fun a ha => (k.1 _ (hP (a, p, 0) ⟨ha, rfl⟩)).1
  unfold PX PW at h ⊢
  rw [e 28 (by decide), e 29 (by decide), e 30 (by decide)]
  exact h
theorem CW.fr {A : RA} {σ σ' : SG} {P : Lc → Prop} (h : CW A σ) (k : Fr P σ σ') (hP : ∀ L, (inR 0 L ∨ (28 ≤ L.1 ∧ L.1 ≤ 30)) → ¬ P L) : CW A σ' :=
  ⟨h.1, h.2.1.fr k (fun L hL => hP L (Or.inl hL)), fun r hr => (h.2.2 r hr).fr k (fun L hL => hP L (Or.inr hL.1))⟩
theorem CW.P {A : RA} {σ σ' : SG} (h : CW A σ) (k : Fr inP σ σ') : CW A σ' := h.fr k (fun L hL hP => by
  unfold inP at hP
  rcases hL with hL | hL
  · unfold inR at hL; omega
  · omega)
theorem Av.v {A : RA} (h : Av A) {r : Nat} (hr : r < rN A) : ∀ j, j < rLn A r → 0 ≤ rNu A r j ∧ rNu A r j < 268435456 := (h.2.2.2.2 r hr).2.2
theorem Av.l {A : RA} (h : Av A) {r : Nat} (hr : r < rN A) : rLn A r ≤ 60 := (h.2.2.2.2 r hr).2.1
/-- what row r costs -/
abbrev prA (A : RA) (r : Nat) : Int := smU (fun k => rPr A ((chA A r (stU (chA A r) k)))) ((nW (chA A r) (rLn A r)))
def enN (sk n : Nat) : Nat := (n + sk - 1) / sk
abbrev neA (A : RA) (r : Nat) : Int := smU (fun i => (bts (rNu A r i) : Int)) (rLn A r)
def reI (E1 E2 : Nat) (σ : SG) (t : KT) : RZ → RS
  | .inl z => (.inl (some (aI (iZ z))), am_hp σ, t)
  | .inr c => (.inr (if c = 1 then E1 else E2), am_hp σ, (t.1, t.2.1 + 1, t.2.2 + 6))
def reJ (E1 E2 : Nat) (σ : SG) (t : KT) : RZ → RS
  | .inl z => (.inl (some (aL (jZ z))), am_hp σ, t)
  | .inr c => (.inr (if c = 1 then E1 else E2), am_hp σ, (t.1, t.2.1 + 1, t.2.2 + 6))
def A_setting (A : RA) (x : Int) : RZ := if x = 0 then .inl (rN A) else if x = 1 then .inl (rRu A) else if x = 2 then .inl (rSk A) else if x = 3 then .inl (smU (fun r => (rLn A r : Int)) (rN A)) else if x = 4 then .inl (smU (fun r => ((nW (chA A r) (rLn A r)) : Int)) (rN A)) else if x = 5 then .inl (smU (prA A) (rN A)) else .inr 1
/-- a letter of a name -/
def ltA (l : List Nat) (x : Int) : Int := if 0 ≤ x ∧ x < l.length then (l.getD x.toNat 0 : Int) else 0
def A_letter (A : RA) (x i : Int) : RZ := if isR A x then .inl (ltA (rNm A x.toNat) i) else .inr 1
def A_way (A : RA) (w x : Int) : RZ := if 0 ≤ w ∧ w < 9 then (if x = 0 then .inl (cnt w.toNat) else if x = 1 then .inl (wid w.toNat) else if x = 2 then .inl (rPr A w.toNat) else if x = 3 then .inl (smU (fun r => smU (fun k => bz ((chA A r (stU (chA A r) k)) = w.toNat)) ((nW (chA A r) (rLn A r)))) (rN A)) else .inr 2) else .inr 1
def A_row (A : RA) (r x : Int) : RZ := if isR A r then (if x = 0 then .inl (rLn A r.toNat) else if x = 1 then .inl ((nW (chA A r.toNat) (rLn A r.toNat))) else if x = 2 then .inl (prA A r.toNat) else if x = 3 then .inl (enN (rSk A) ((nW (chA A r.toNat) (rLn A r.toNat)))) else if x = 4 then .inl (smU (fun k => 28 - (wid ((chA A r.toNat (stU (chA A r.toNat) k))) : Int) * ((hB (chA A r.toNat) (rLn A r.toNat) k) : Int)) ((nW (chA A r.toNat) (rLn A r.toNat)))) else if x = 5 then .inl (smU (fun k => (wid ((chA A r.toNat (stU (chA A r.toNat) k))) : Int) * ((hB (chA A r.toNat) (rLn A r.toNat) k) : Int)) ((nW (chA A r.toNat) (rLn A r.toNat))) - neA A r.toNat) else if x = 6 then .inl (orU (wyA A r.toNat) ((nW (chA A r.toNat) (rLn A r.toNat)))) else .inr 2) else .inr 1
def A_word (A : RA) (r k : Int) : RZ := if isW A r k then .inl (wrd (rNu A r.toNat) (rLn A r.toNat) ((chA A r.toNat (stU (chA A r.toNat) k.toNat))) ((stU (chA A r.toNat) k.toNat))) else .inr 1
def A_wordPart (A : RA) (r k x : Int) : RZ := if isW A r k then (if x = 0 then .inl ((chA A r.toNat (stU (chA A r.toNat) k.toNat))) else if x = 1 then .inl ((hB (chA A r.toNat) (rLn A r.toNat) k.toNat)) else if x = 2 then .inl ((stU (chA A r.toNat) k.toNat)) else if x = 3 then .inl (28 - (wid ((chA A r.toNat (stU (chA A r.toNat) k.toNat))) : Int) * ((hB (chA A r.toNat) (rLn A r.toNat) k.toNat) : Int)) else .inr 2) else .inr 1
def A_wordSum (A : RA) (r k : Int) : RZ := if isW A r k then .inl (smF (rNu A r.toNat) ((stU (chA A r.toNat) k.toNat)) ((hB (chA A r.toNat) (rLn A r.toNat) k.toNat))) else .inr 1
def A_entryStart (A : RA) (r e : Int) : RZ := if isR A r then (if 0 ≤ e ∧ e < enN (rSk A) ((nW (chA A r.toNat) (rLn A r.toNat))) then .inl ((stU (chA A r.toNat) (e.toNat * rSk A))) else .inl (-1)) else .inr 1
def A_entrySum (A : RA) (r e : Int) : RZ := if isR A r then (if 0 ≤ e ∧ e < enN (rSk A) ((nW (chA A r.toNat) (rLn A r.toNat))) then .inl (smF (rNu A r.toNat) 0 ((stU (chA A r.toNat) (e.toNat * rSk A)))) else .inl (-1)) else .inr 1
def A_why (A : RA) (r k w : Int) : RZ := if isW A r k ∧ 0 ≤ w ∧ w < 9 then (if ((chA A r.toNat (stU (chA A r.toNat) k.toNat)) : Int) = w then .inl 0 else if tk (rNu A r.toNat) (rLn A r.toNat) ((stU (chA A r.toNat) k.toNat)) w.toNat then .inl 2 else .inl 1) else .inr 1
/-- words read for number i -/
abbrev rdN (ch : Nat → Nat) (n sk i : Nat) : Nat := (cLe ch n i - 1) % sk + 1
/-- words read for the sum ahead of i -/
abbrev raN (ch : Nat → Nat) (n sk i : Nat) : Nat := cLt ch n i - ((cLe ch n i - 1) - (cLe ch n i - 1) % sk)
def A_read (A : RA) (r i : Int) : RZ × Int := if isN A r i then (.inl (rNu A r.toNat i.toNat), (rdN (chA A r.toNat) (rLn A r.toNat) (rSk A) i.toNat : Int)) else (.inr 1, 0)
def A_readsFor (A : RA) (r i : Int) : RZ := if isN A r i then .inl (rdN (chA A r.toNat) (rLn A r.toNat) (rSk A) i.toNat : Int) else .inr 1
def A_sum (A : RA) (r a b : Int) : RZ × Int := if isR A r then (if 0 ≤ a ∧ a ≤ b ∧ b ≤ rLn A r.toNat then (.inl (smF (rNu A r.toNat) 0 b.toNat - smF (rNu A r.toNat) 0 a.toNat), (raN (chA A r.toNat) (rLn A r.toNat) (rSk A) a.toNat : Int) + (raN (chA A r.toNat) (rLn A r.toNat) (rSk A) b.toNat : Int)) else (.inr 2, 0)) else (.inr 1, 0)
/-- a value fits a way -/
abbrev ftW (v : Int) (w : Nat) : Prop := 0 ≤ v ∧ v < 2 ^ wid w
/-- the first place in word k that holds v, or -1 -/
abbrev fdW (ch : Nat → Nat) (f : Nat → Int) (n : Nat) (v : Int) (k : Nat) : Int := fndF (fun i => f i = v) (stU ch k) (hB ch n k)
abbrev htW (ch : Nat → Nat) (f : Nat → Int) (n : Nat) (v : Int) (k : Nat) : Prop := ftW v ((ch (stU ch k))) ∧ fdW ch f n v k ≠ -1
def A_first (A : RA) (r v : Int) : RZ × Int := if isR A r then (if fndF (htW (chA A r.toNat) (rNu A r.toNat) (rLn A r.toNat) v) 0 ((nW (chA A r.toNat) (rLn A r.toNat))) = -1 then (.inl (-1), smU (fun k => bz (ftW v ((chA A r.toNat (stU (chA A r.toNat) k))))) ((nW (chA A r.toNat) (rLn A r.toNat)))) else (.inl (fdW (chA A r.toNat) (rNu A r.toNat) (rLn A r.toNat) v (fndF (htW (chA A r.toNat) (rNu A r.toNat) (rLn A r.toNat) v) 0 ((nW (chA A r.toNat) (rLn A r.toNat)))).toNat), smU (fun k => bz (ftW v ((chA A r.toNat (stU (chA A r.toNat) k))))) ((fndF (htW (chA A r.toNat) (rNu A r.toNat) (rLn A r.toNat) v) 0 ((nW (chA A r.toNat) (rLn A r.toNat)))).toNat + 1))) else (.inr 1, 0)
/-- how often word k holds v -/
abbrev tmW (ch : Nat → Nat) (f : Nat → Int) (n : Nat) (v : Int) (k : Nat) : Int := smU (fun j => bz (f (stU ch k + j) = v)) (hB ch n k)
def A_many (A : RA) (r v : Int) : RZ × Int := if isR A r then (.inl (smU (fun k => if ftW v ((chA A r.toNat (stU (chA A r.toNat) k))) then tmW (chA A r.toNat) (rNu A r.toNat) (rLn A r.toNat) v k else 0) ((nW (chA A r.toNat) (rLn A r.toNat)))), smU (fun k => bz (ftW v ((chA A r.toNat (stU (chA A r.toNat) k))))) ((nW (chA A r.toNat) (rLn A r.toNat)))) else (.inr 1, 0)
def mxU (f : Nat → Int) : Nat → Int
  | 0 => -1
  | k + 1 => max (mxU f k) (f k)
def A_greatest (A : RA) (r : Int) : RZ := if isR A r then .inl (mxU (rNu A r.toNat) (rLn A r.toNat)) else .inr 1
def A_wordsBy (A : RA) (r u : Int) : RZ := if isR A r then (if 0 ≤ u ∧ u ≤ 2 then .inl (nW (wayF u.toNat (rPr A) (rNu A r.toNat) (rLn A r.toNat)) (rLn A r.toNat)) else .inr 2) else .inr 1
def A_priceBy (A : RA) (r u : Int) : RZ := if isR A r then (if 0 ≤ u ∧ u ≤ 2 then .inl (smU (fun k => rPr A (((wayF u.toNat (rPr A) (rNu A r.toNat) (rLn A r.toNat)) (stU (wayF u.toNat (rPr A) (rNu A r.toNat) (rLn A r.toNat)) k)))) (nW (wayF u.toNat (rPr A) (rNu A r.toNat) (rLn A r.toNat)) (rLn A r.toNat))) else .inr 2) else .inr 1
def A_wordsIf (A : RA) (r i v : Int) : RZ := if isN A r i then (if 0 ≤ v ∧ v ≤ 268435455 then .inl (nW (wayF (rRu A) (rPr A) (fup (rNu A r.toNat) i.toNat v) (rLn A r.toNat)) (rLn A r.toNat)) else .inr 2) else .inr 1
/-- words without number i -/
abbrev wlN (A : RA) (r i : Nat) : Nat := nW (wayF (rRu A) (rPr A) (fun j => if j < i then rNu A r j else rNu A r (j + 1)) (rLn A r - 1)) (rLn A r - 1)
def brU (g : Nat → Nat) : Nat → Int × Nat
  | 0 => (-1, 60)
  | k + 1 => if g k < (brU g k).2 then ((k : Int), g k) else brU g k
def A_bestRemove (A : RA) (r : Int) : RZ := if isR A r then .inl (brU (wlN A r.toNat) (rLn A r.toNat)).1 else .inr 1
/-- words by RULE 2 where way w has price p -/
abbrev dwN (A : RA) (r w p : Nat) : Nat := nW (cheW (rNu A r) (rLn A r) (cst 2 (fup (rPr A) w p))) (rLn A r)
abbrev dhN (A : RA) (r : Nat) : Nat := nW (cheW (rNu A r) (rLn A r) (cst 2 (rPr A))) (rLn A r)
abbrev drW (A : RA) (r w : Nat) : Prop := fndF (fun p => dwN A r w p < (nW (cheW (rNu A r) (rLn A r) (cst 2 (rPr A))) (rLn A r))) 0 100 ≠ -1
def A_dearWay (A : RA) (r : Int) : RZ := if isR A r then .inl (fndF (drW A r.toNat) 0 9) else .inr 1
def A_wordsTogether (A : RA) (r s : Int) : RZ := if isR A r ∧ isR A s then .inl (nW (wayF (rRu A) (rPr A) (fun i => if i < rLn A r.toNat then rNu A r.toNat i else rNu A s.toNat (i - rLn A r.toNat)) (rLn A r.toNat + rLn A s.toNat)) (rLn A r.toNat + rLn A s.toNat)) else .inr 1
abbrev rsN (A : RA) (r sk : Nat) : Int := smU (fun i => (rdN (chA A r) (rLn A r) sk i : Int)) (rLn A r)
def bsU (g : Nat → Int) : Nat → Nat
  | 0 => 1
  | k + 1 => if g (k + 2) ≤ g (bsU g k) then k + 2 else bsU g k
def A_bestSkip (A : RA) (r : Int) : RZ := if isR A r then (if rLn A r.toNat = 0 then .inl (-1) else .inl (bsU (rsN A r.toNat) 8)) else .inr 1
-- searching
theorem fndF_no {P : Nat → Prop} [DecidablePred P] : ∀ (k i : Nat), (∀ j, j < k → ¬ P (i + j)) → fndF P i k = -1
  | 0, _, _ => rfl
  | k + 1, i, h => by
    unfold fndF
    rw [if_neg (show ¬ P i from h 0 (by omega)), fndF_no k (i + 1) (fun j hj => by rw [show i + 1 + j = i + (j + 1) by omega]; exact h (j + 1) (by omega))]
theorem fndF_at {P : Nat → Prop} [DecidablePred P] : ∀ (k i m : Nat), m < k → (∀ j, j < m → ¬ P (i + j)) → P (i + m) → fndF P i k = ((i + m : Nat) : Int)
  | 0, _, _, h, _, _ => by omega
  | k + 1, i, 0, _, _, hp => by
    unfold fndF
    rw [if_pos (show P i from hp)]
    rfl
  | k + 1, i, m + 1, h, hn, hp => by
    unfold fndF
    rw [if_neg (show ¬ P i from hn 0 (by omega)), fndF_at k (i + 1) m (by omega) (fun j hj => by rw [show i + 1 + j = i + (j + 1) by omega]; exact hn (j + 1) (by omega)) (by rw [show i + 1 + m = i + (m + 1) by omega]; exact hp), show i + 1 + m = i + (m + 1) by omega]
theorem smF_add (f : Nat → Int) : ∀ a i b, smF f i (a + b) = smF f i a + smF f (i + a) b
  | 0, i, b => by rw [Nat.zero_add, smF, Int.zero_add, Nat.add_zero]
  | a + 1, i, b => by
    rw [show a + 1 + b = (a + b) + 1 by omega, smF, smF, smF_add f a (i + 1) b, show i + 1 + a = i + (a + 1) by omega]
    omega
theorem smF_smU (f : Nat → Int) : ∀ n, smF f 0 n = smU f n
  | 0 => rfl
  | n + 1 => by
    rw [smF_add f n 0 1, smF_smU f n, Nat.zero_add]
    show smU f n + (f n + 0) = smU f n + f n
    rw [Int.add_zero]
