/-! THE LAW'S LOOP -/
set_option maxRecDepth 4000
theorem law_loop {xl : XL} (hxl : xl.1 ≤ 3072) {Q : RS → Prop} (hQ : ∀ (σ' : SG) (t' : KT), t'.2.1 ≤ 169 + 3072 → t'.2.2 ≤ 10354 + 3072 → Q (.inl (some (aI (iZ 1))), am_hp σ', t')) : ∀ (k i : Nat) (σ : SG) (t : KT) (S : SS) (u6 u7 u8 u9 : Option AV), CS S σ → MS S σ → σ.2.2.2.2 = xl → xl.1 ≤ i + 6 * k + 5 → i ≤ 3072 → t.2.1 ≤ 169 + i → t.2.2 ≤ 10354 + i → Wp k_L_law 20 (28, [some (aR (some (92, 0, 0))), some (aR (some (1, 0, 0))), some (aR (some (40, 0, 0))), some (aR (some (70, 0, 0))), some (aR (some (71, 0, 0))), some (aI (iZ (i : Int))), u6, u7, u8, u9], [], am_hp σ, t) Q
  | 0, i, σ, t, S, u6, u7, u8, u9, h, m, ex, hk, hi, ht1, ht2 => by
    exact b_L_law_28 (by omega) (by rw [ex]; omega) (fun _ => b_L_law_3039 (hQ σ t (by omega) (by omega))) (fun q => absurd q (by rw [ex]; omega))
  | k + 1, i, σ, t, S, u6, u7, u8, u9, h, m, ex, hk, hi, ht1, ht2 => by
    refine b_L_law_28 (by omega) (by rw [ex]; omega) (fun _ => b_L_law_3039 (hQ σ t (by omega) (by omega))) (fun q => ?_)
    have hx : 0 ≤ (i : Int) ∧ (i : Int) + 5 < ((σ.2.2.2.2.1 : Nat) : Int) := by omega
    have hin : i + 6 ≤ 3072 := by rw [ex] at hx; omega
    have hl : Nat.ble σ.2.2.2.2.1 4000 = true := by rw [ex]; exact Nat.ble_eq.mpr (by omega)
    have go : GO σ t (i : Int) Q := fun S' σ' t' v6 v7 v8 v9 h' m' e' ht' => by
      refine b_L_law_3033 ?_
      have hb : t'.2.1 ≤ 169 + (i + 6) ∧ t'.2.2 ≤ 10354 + (i + 6) := by
        rcases ht' with rfl | rfl
        · omega
        · show t.2.1 + 1 ≤ 169 + (i + 6) ∧ t.2.2 + 6 ≤ 10354 + (i + 6)
          omega
      exact law_loop hxl hQ k (i + 6) σ' t' S' v6 v7 v8 v9 h' m' (e'.trans ex) (by omega) hin hb.1 hb.2
    refine b_L_law_38 (by omega) hl (rg32 _) (fun _ => lc_feed h m hx hl go) (fun _ => lc_truncate h m hx hl go) (fun _ => lc_readText h m hx hl go) (fun _ => lc_runScript h m hx hl go) (fun _ => lc_errorCode h m hx hl go) (fun _ => lc_errorPosition h m hx hl go) (fun _ => lc_setting h m hx hl go) (fun _ => lc_letter h m hx hl go) (fun _ => lc_way h m hx hl go) (fun _ => lc_row h m hx hl go) (fun _ => lc_word h m hx hl go) (fun _ => lc_wordPart h m hx hl go) (fun _ => lc_wordSum h m hx hl go) (fun _ => lc_entryStart h m hx hl go) (fun _ => lc_entrySum h m hx hl go) (fun _ => lc_why h m hx hl go) (fun _ => lc_gap h m hx hl go) (fun _ => lc_find h m hx hl go) (fun _ => lc_read h m hx hl go) (fun _ => lc_sum h m hx hl go) (fun _ => lc_first h m hx hl go) (fun _ => lc_many h m hx hl go) (fun _ => lc_readsFor h m hx hl go) (fun _ => lc_greatest h m hx hl go) (fun _ => lc_filled h m hx hl go) (fun _ => lc_meanHeld h m hx hl go) (fun _ => lc_wordsBy h m hx hl go) (fun _ => lc_priceBy h m hx hl go) (fun _ => lc_wordsIf h m hx hl go) (fun _ => lc_bestRemove h m hx hl go) (fun _ => lc_dearWay h m hx hl go) (fun _ => lc_wordsTogether h m hx hl go) (fun _ => lc_bestSkip h m hx hl go) (fun _ => lc_add h m hx hl go) (fun _ => lc_append h m hx hl go) (fun _ => lc_put h m hx hl go) (fun _ => lc_insert h m hx hl go) (fun _ => lc_remove h m hx hl go) (fun _ => lc_join h m hx hl go) (fun _ => lc_setRule h m hx hl go) (fun _ => lc_setSkip h m hx hl go) (fun _ => lc_setPrice h m hx hl go) (fun _ => lc_refusal h m hx hl go) (fun _ => lc_account h m hx hl go) (fun _ => lc_undo h m hx hl go) (fun _ => lc_report h m hx hl go) (fun _ => lc_reportByte h m hx hl go) (fun _ => lc_save h m hx hl go) (fun _ => lc_restore h m hx hl go) ?_
    · exact fun _ => b_L_law_3033 (by
        exact law_loop hxl hQ k (i + 6) σ t S u6 u7 u8 u9 h m ex (by omega) hin (by omega) (by omega))
